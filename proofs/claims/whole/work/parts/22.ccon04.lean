theorem sK_law_toOf : SK M_law_toOf q_law_toOf := sk_law_toOf
set_option maxRecDepth 100000 in
set_option maxHeartbeats 4000000 in
theorem c_law_toOf {d : Nat} {codeLength_ : Int32} {size_ : Int32} {take_ : Int32} {fee_ : Int32} {to_ : Nat → Int32} {l1 : Int32} {r0 : Int32} (hr : f_law_toOf size_ to_ l1 = some r0) : Ctr (d + 1) M_law_toOf [.ref 0, .int l1] (h_law_toOf codeLength_ size_ take_ fee_ to_) (some (.int r0)) (h_law_toOf codeLength_ size_ take_ fee_ to_) := by
  refine Ctr.start pn_law [some (.ref 0), some (.int l1)] (Nat.le_of_ble_eq_true rfl) rfl ?_
  unfold f_law_toOf at hr
  refine AJ.g sK_law_toOf 0 1 (True) 1 [some (.ref 0), some (.int l1)] [.int l1] (h_law_toOf codeLength_ size_ take_ fee_ to_) rfl trivial ?_
  refine AJ.iT hr (SK.at sK_law_toOf 1 rfl) 21 4 rfl rfl rfl (fun hr => ?_) (fun hr => ?_)
  · refine AJ.g sK_law_toOf 11 1 (True) 22 [some (.ref 0), some (.int l1)] [.int 0] (h_law_toOf codeLength_ size_ take_ fee_ to_) rfl trivial ?_
    cases hr
    exact AJ.xi (SK.at sK_law_toOf 12 rfl) rfl
  · refine AJ.g sK_law_toOf 2 3 (True) 9 [some (.ref 0), some (.int l1)] [.int size_, .int l1] (h_law_toOf codeLength_ size_ take_ fee_ to_) rfl trivial ?_
    refine AJ.iF hr (SK.at sK_law_toOf 5 rfl) 21 12 rfl rfl rfl (fun hr => ?_) (fun hr => ?_)
    · refine k_grd hr (fun g1 hr => ?_)
      refine AJ.g sK_law_toOf 6 5 (inb l1 20 ∧ True) 22 [some (.ref 0), some (.int l1)] [.int (to_ (ix l1))] (h_law_toOf codeLength_ size_ take_ fee_ to_) rfl ⟨g1, trivial⟩ ?_
      cases hr
      exact AJ.xi (SK.at sK_law_toOf 12 rfl) rfl
    · refine AJ.g sK_law_toOf 11 1 (True) 22 [some (.ref 0), some (.int l1)] [.int 0] (h_law_toOf codeLength_ size_ take_ fee_ to_) rfl trivial ?_
      cases hr
      exact AJ.xi (SK.at sK_law_toOf 12 rfl) rfl
theorem sK_world_hasPerson : SK M_world_hasPerson q_world_hasPerson := sk_world_hasPerson
set_option maxRecDepth 100000 in
set_option maxHeartbeats 4000000 in
theorem c_world_hasPerson {d : Nat} {people_ : Int32} {gates_ : Int32} {hour_ : Int32} {texts_ : Int32} {ruling_ : Int32} {x_ : Int32} {l1 : Int32} {r0 : Int32} (hr : f_world_hasPerson people_ l1 = some r0) : Ctr (d + 1) M_world_hasPerson [.ref 0, .int l1] (h_world_hasPerson people_ gates_ hour_ texts_ ruling_ x_) (some (.int r0)) (h_world_hasPerson people_ gates_ hour_ texts_ ruling_ x_) := by
  refine Ctr.start pn_world [some (.ref 0), some (.int l1)] (Nat.le_of_ble_eq_true rfl) rfl ?_
  unfold f_world_hasPerson at hr
  refine AJ.g sK_world_hasPerson 0 1 (True) 1 [some (.ref 0), some (.int l1)] [.int l1] (h_world_hasPerson people_ gates_ hour_ texts_ ruling_ x_) rfl trivial ?_
  refine AJ.iT hr (SK.at sK_world_hasPerson 1 rfl) 16 4 rfl rfl rfl (fun hr => ?_) (fun hr => ?_)
  · refine AJ.g sK_world_hasPerson 8 1 (True) 17 [some (.ref 0), some (.int l1)] [.int 0] (h_world_hasPerson people_ gates_ hour_ texts_ ruling_ x_) rfl trivial ?_
    cases hr
    exact AJ.xz (by decide) (SK.at sK_world_hasPerson 9 rfl) rfl
  · refine AJ.g sK_world_hasPerson 2 3 (True) 9 [some (.ref 0), some (.int l1)] [.int people_, .int l1] (h_world_hasPerson people_ gates_ hour_ texts_ ruling_ x_) rfl trivial ?_
    refine AJ.iF hr (SK.at sK_world_hasPerson 5 rfl) 16 12 rfl rfl rfl (fun hr => ?_) (fun hr => ?_)
    · refine AJ.g sK_world_hasPerson 6 2 (True) 17 [some (.ref 0), some (.int l1)] [.int 1] (h_world_hasPerson people_ gates_ hour_ texts_ ruling_ x_) rfl trivial ?_
      cases hr
      exact AJ.xz (by decide) (SK.at sK_world_hasPerson 9 rfl) rfl
    · refine AJ.g sK_world_hasPerson 8 1 (True) 17 [some (.ref 0), some (.int l1)] [.int 0] (h_world_hasPerson people_ gates_ hour_ texts_ ruling_ x_) rfl trivial ?_
      cases hr
      exact AJ.xz (by decide) (SK.at sK_world_hasPerson 9 rfl) rfl
theorem sK_world_hasGate : SK M_world_hasGate q_world_hasGate := sk_world_hasGate
set_option maxRecDepth 100000 in
set_option maxHeartbeats 4000000 in
theorem c_world_hasGate {d : Nat} {people_ : Int32} {gates_ : Int32} {hour_ : Int32} {texts_ : Int32} {ruling_ : Int32} {x_ : Int32} {l1 : Int32} {r0 : Int32} (hr : f_world_hasGate gates_ l1 = some r0) : Ctr (d + 1) M_world_hasGate [.ref 0, .int l1] (h_world_hasGate people_ gates_ hour_ texts_ ruling_ x_) (some (.int r0)) (h_world_hasGate people_ gates_ hour_ texts_ ruling_ x_) := by
  refine Ctr.start pn_world [some (.ref 0), some (.int l1)] (Nat.le_of_ble_eq_true rfl) rfl ?_
  unfold f_world_hasGate at hr
  refine AJ.g sK_world_hasGate 0 1 (True) 1 [some (.ref 0), some (.int l1)] [.int l1] (h_world_hasGate people_ gates_ hour_ texts_ ruling_ x_) rfl trivial ?_
  refine AJ.iT hr (SK.at sK_world_hasGate 1 rfl) 16 4 rfl rfl rfl (fun hr => ?_) (fun hr => ?_)
  · refine AJ.g sK_world_hasGate 8 1 (True) 17 [some (.ref 0), some (.int l1)] [.int 0] (h_world_hasGate people_ gates_ hour_ texts_ ruling_ x_) rfl trivial ?_
    cases hr
    exact AJ.xz (by decide) (SK.at sK_world_hasGate 9 rfl) rfl
  · refine AJ.g sK_world_hasGate 2 3 (True) 9 [some (.ref 0), some (.int l1)] [.int gates_, .int l1] (h_world_hasGate people_ gates_ hour_ texts_ ruling_ x_) rfl trivial ?_
    refine AJ.iF hr (SK.at sK_world_hasGate 5 rfl) 16 12 rfl rfl rfl (fun hr => ?_) (fun hr => ?_)
    · refine AJ.g sK_world_hasGate 6 2 (True) 17 [some (.ref 0), some (.int l1)] [.int 1] (h_world_hasGate people_ gates_ hour_ texts_ ruling_ x_) rfl trivial ?_
      cases hr
      exact AJ.xz (by decide) (SK.at sK_world_hasGate 9 rfl) rfl
    · refine AJ.g sK_world_hasGate 8 1 (True) 17 [some (.ref 0), some (.int l1)] [.int 0] (h_world_hasGate people_ gates_ hour_ texts_ ruling_ x_) rfl trivial ?_
      cases hr
      exact AJ.xz (by decide) (SK.at sK_world_hasGate 9 rfl) rfl
theorem sK_town_nameOf : SK M_town_nameOf q_town_nameOf := sk_town_nameOf
set_option maxRecDepth 100000 in
set_option maxHeartbeats 4000000 in
theorem c_town_nameOf {d : Nat} {names_ : Nat → Int32} {l1 : Int32} {r0 : Int32} (hr : f_town_nameOf names_ l1 = some r0) : Ctr (d + 1) M_town_nameOf [.ref 0, .int l1] (h_town_nameOf names_) (some (.int r0)) (h_town_nameOf names_) := by
  refine Ctr.start pn_town [some (.ref 0), some (.int l1)] (Nat.le_of_ble_eq_true rfl) rfl ?_
  unfold f_town_nameOf at hr
  refine AJ.g sK_town_nameOf 0 1 (True) 1 [some (.ref 0), some (.int l1)] [.int l1] (h_town_nameOf names_) rfl trivial ?_
  refine AJ.iT hr (SK.at sK_town_nameOf 1 rfl) 22 4 rfl rfl rfl (fun hr => ?_) (fun hr => ?_)
  · refine AJ.g sK_town_nameOf 12 1 (True) 23 [some (.ref 0), some (.int l1)] [.int (-1)] (h_town_nameOf names_) rfl trivial ?_
    cases hr
    exact AJ.xi (SK.at sK_town_nameOf 13 rfl) rfl
  · refine AJ.g sK_town_nameOf 2 4 (True) 10 [some (.ref 0), some (.int l1)] [.int 8, .int l1] (h_town_nameOf names_) rfl trivial ?_
    refine AJ.iF hr (SK.at sK_town_nameOf 6 rfl) 22 13 rfl rfl rfl (fun hr => ?_) (fun hr => ?_)
    · refine k_grd hr (fun g1 hr => ?_)
      refine AJ.g sK_town_nameOf 7 5 (inb l1 8 ∧ True) 23 [some (.ref 0), some (.int l1)] [.int (names_ (ix l1))] (h_town_nameOf names_) rfl ⟨g1, trivial⟩ ?_
      cases hr
      exact AJ.xi (SK.at sK_town_nameOf 13 rfl) rfl
    · refine AJ.g sK_town_nameOf 12 1 (True) 23 [some (.ref 0), some (.int l1)] [.int (-1)] (h_town_nameOf names_) rfl trivial ?_
      cases hr
      exact AJ.xi (SK.at sK_town_nameOf 13 rfl) rfl
theorem sK_town_sizeOf : SK M_town_sizeOf q_town_sizeOf := sk_town_sizeOf
set_option maxRecDepth 100000 in
set_option maxHeartbeats 4000000 in
theorem c_town_sizeOf {d : Nat} {sizes_ : Nat → Int32} {l1 : Int32} {r0 : Int32} (hr : f_town_sizeOf sizes_ l1 = some r0) : Ctr (d + 1) M_town_sizeOf [.ref 0, .int l1] (h_town_sizeOf sizes_) (some (.int r0)) (h_town_sizeOf sizes_) := by
  refine Ctr.start pn_town [some (.ref 0), some (.int l1)] (Nat.le_of_ble_eq_true rfl) rfl ?_
  unfold f_town_sizeOf at hr
  refine AJ.g sK_town_sizeOf 0 1 (True) 1 [some (.ref 0), some (.int l1)] [.int l1] (h_town_sizeOf sizes_) rfl trivial ?_
  refine AJ.iT hr (SK.at sK_town_sizeOf 1 rfl) 22 4 rfl rfl rfl (fun hr => ?_) (fun hr => ?_)
  · refine AJ.g sK_town_sizeOf 12 1 (True) 23 [some (.ref 0), some (.int l1)] [.int 0] (h_town_sizeOf sizes_) rfl trivial ?_
    cases hr
    exact AJ.xi (SK.at sK_town_sizeOf 13 rfl) rfl
  · refine AJ.g sK_town_sizeOf 2 4 (True) 10 [some (.ref 0), some (.int l1)] [.int 3, .int l1] (h_town_sizeOf sizes_) rfl trivial ?_
    refine AJ.iF hr (SK.at sK_town_sizeOf 6 rfl) 22 13 rfl rfl rfl (fun hr => ?_) (fun hr => ?_)
    · refine k_grd hr (fun g1 hr => ?_)
      refine AJ.g sK_town_sizeOf 7 5 (inb l1 3 ∧ True) 23 [some (.ref 0), some (.int l1)] [.int (sizes_ (ix l1))] (h_town_sizeOf sizes_) rfl ⟨g1, trivial⟩ ?_
      cases hr
      exact AJ.xi (SK.at sK_town_sizeOf 13 rfl) rfl
    · refine AJ.g sK_town_sizeOf 12 1 (True) 23 [some (.ref 0), some (.int l1)] [.int 0] (h_town_sizeOf sizes_) rfl trivial ?_
      cases hr
      exact AJ.xi (SK.at sK_town_sizeOf 13 rfl) rfl
theorem sK_go_ruling : SK M_go_ruling q_go_ruling := sk_go_ruling
set_option maxRecDepth 100000 in
set_option maxHeartbeats 4000000 in
theorem c_go_ruling_n {d : Nat} {world_people_ : Int32} {world_gates_ : Int32} {world_hour_ : Int32} {world_texts_ : Int32} {world_ruling_ : Int32} {world_x_ : Int32} {laws_ru : Nat} (hg : world_ruling_ < 0 ∨ ¬ world_ruling_ < 4) : Ctr (d + 1) M_go_ruling [.ref 0] (h_go_ruling world_people_ world_gates_ world_hour_ world_texts_ world_ruling_ world_x_ laws_ru) (some .null) (h_go_ruling world_people_ world_gates_ world_hour_ world_texts_ world_ruling_ world_x_ laws_ru) := by
  refine Ctr.start pn_go [some (.ref 0)] (Nat.le_of_ble_eq_true rfl) rfl ?_
  refine AJ.g sK_go_ruling 0 5 True 9 [some (.ref 0), some (.int world_ruling_)] [.int world_ruling_] (h_go_ruling world_people_ world_gates_ world_hour_ world_texts_ world_ruling_ world_x_ laws_ru) rfl trivial ?_
  have kN : AJ (M_go_ruling, d + 1, some .null, (h_go_ruling world_people_ world_gates_ world_hour_ world_texts_ world_ruling_ world_x_ laws_ru), (h_go_ruling world_people_ world_gates_ world_hour_ world_texts_ world_ruling_ world_x_ laws_ru)) 30 [some (.ref 0), some (.int world_ruling_)] [] (h_go_ruling world_people_ world_gates_ world_hour_ world_texts_ world_ruling_ world_x_ laws_ru) := AJ.nul (SK.at sK_go_ruling 16 rfl) (AJ.xa (Or.inl rfl) (SK.at sK_go_ruling 17 rfl) rfl)
  refine AJ.cnd (X := (M_go_ruling, d + 1, some .null, (h_go_ruling world_people_ world_gates_ world_hour_ world_texts_ world_ruling_ world_x_ laws_ru), (h_go_ruling world_people_ world_gates_ world_hour_ world_texts_ world_ruling_ world_x_ laws_ru))) (SK.at sK_go_ruling 5 rfl) (tgt := 30) (nxt := 12) rfl rfl rfl (fun _ => kN) (fun q1 => ?_)
  refine AJ.g sK_go_ruling 6 4 True 18 [some (.ref 0), some (.int world_ruling_)] [.int 4, .int world_ruling_] (h_go_ruling world_people_ world_gates_ world_hour_ world_texts_ world_ruling_ world_x_ laws_ru) rfl trivial ?_
  exact AJ.cnd (X := (M_go_ruling, d + 1, some .null, (h_go_ruling world_people_ world_gates_ world_hour_ world_texts_ world_ruling_ world_x_ laws_ru), (h_go_ruling world_people_ world_gates_ world_hour_ world_texts_ world_ruling_ world_x_ laws_ru))) (SK.at sK_go_ruling 10 rfl) (tgt := 30) (nxt := 21) rfl rfl rfl (fun q2 => absurd q2 (hg.elim (fun z => absurd z q1) id)) (fun _ => kN)
set_option maxRecDepth 100000 in
set_option maxHeartbeats 4000000 in
theorem c_go_ruling_s {d : Nat} {world_people_ : Int32} {world_gates_ : Int32} {world_hour_ : Int32} {world_texts_ : Int32} {world_ruling_ : Int32} {world_x_ : Int32} {laws_ru : Nat} (hru : laws_ru = 0 ∨ laws_ru = 1 ∨ laws_ru = 2 ∨ laws_ru = 3) (gp : ¬ world_ruling_ < 0) (gl : world_ruling_ < 4) (ge : ix world_ruling_ = laws_ru) : Ctr (d + 1) M_go_ruling [.ref 0] (h_go_ruling world_people_ world_gates_ world_hour_ world_texts_ world_ruling_ world_x_ laws_ru) (some (.ref 13)) (h_go_ruling world_people_ world_gates_ world_hour_ world_texts_ world_ruling_ world_x_ laws_ru) := by
  refine Ctr.start pn_go [some (.ref 0)] (Nat.le_of_ble_eq_true rfl) rfl ?_
  refine AJ.g sK_go_ruling 0 5 True 9 [some (.ref 0), some (.int world_ruling_)] [.int world_ruling_] (h_go_ruling world_people_ world_gates_ world_hour_ world_texts_ world_ruling_ world_x_ laws_ru) rfl trivial ?_
  refine AJ.cnd (X := (M_go_ruling, d + 1, some (.ref 13), (h_go_ruling world_people_ world_gates_ world_hour_ world_texts_ world_ruling_ world_x_ laws_ru), (h_go_ruling world_people_ world_gates_ world_hour_ world_texts_ world_ruling_ world_x_ laws_ru))) (SK.at sK_go_ruling 5 rfl) (tgt := 30) (nxt := 12) rfl rfl rfl (fun q1 => absurd q1 gp) (fun _ => ?_)
  refine AJ.g sK_go_ruling 6 4 True 18 [some (.ref 0), some (.int world_ruling_)] [.int 4, .int world_ruling_] (h_go_ruling world_people_ world_gates_ world_hour_ world_texts_ world_ruling_ world_x_ laws_ru) rfl trivial ?_
  refine AJ.cnd (X := (M_go_ruling, d + 1, some (.ref 13), (h_go_ruling world_people_ world_gates_ world_hour_ world_texts_ world_ruling_ world_x_ laws_ru), (h_go_ruling world_people_ world_gates_ world_hour_ world_texts_ world_ruling_ world_x_ laws_ru))) (SK.at sK_go_ruling 10 rfl) (tgt := 30) (nxt := 21) rfl rfl rfl (fun _ => ?_) (fun q2 => absurd gl q2)
  refine AJ.g sK_go_ruling 11 3 True 26 [some (.ref 0), some (.int world_ruling_)] [.int world_ruling_, .ref 2] (h_go_ruling world_people_ world_gates_ world_hour_ world_texts_ world_ruling_ world_x_ laws_ru) rfl trivial ?_
  refine AJ.aal (c := 103) (x := 13) (fs := [.ref (lq laws_ru 0 13 14), .ref (lq laws_ru 1 13 15), .ref (lq laws_ru 2 13 16), .ref (lq laws_ru 3 13 17)]) (SK.at sK_go_ruling 14 rfl) rfl (Or.inl rfl) ⟨gp, by show ix world_ruling_ < _; rw [ge]; rcases hru with rfl | rfl | rfl | rfl <;> decide⟩ (by rw [ge]; rcases hru with rfl | rfl | rfl | rfl <;> rfl) ?_
  refine AJ.g sK_go_ruling 15 1 True 31 [some (.ref 0), some (.int world_ruling_)] [.ref 13] (h_go_ruling world_people_ world_gates_ world_hour_ world_texts_ world_ruling_ world_x_ laws_ru) rfl trivial ?_
  exact AJ.xa (Or.inr ⟨_, rfl⟩) (SK.at sK_go_ruling 17 rfl) rfl
theorem sK_go_tellGoing : SK M_go_tellGoing q_go_tellGoing := sk_go_tellGoing
set_option maxRecDepth 100000 in
set_option maxHeartbeats 4000000 in
theorem c_go_tellGoing {d : Nat} {world_people_ : Int32} {world_gates_ : Int32} {world_hour_ : Int32} {world_texts_ : Int32} {world_ruling_ : Int32} {world_x_ : Int32} {sums_values_ : Nat → Int32} {p1_names_ : Nat → Int32} {p1_sizes_ : Nat → Int32} {l2 : Int32} {l3 : Int32} {sums_values_Z : Nat → Int32} (hr : f_go_tellGoing world_hour_ sums_values_ p1_names_ p1_sizes_ l2 l3 = some sums_values_Z) : Ctr (d + 2) M_go_tellGoing [.ref 0, .ref 4, .int l2, .int l3] (h_go_tellGoing world_people_ world_gates_ world_hour_ world_texts_ world_ruling_ world_x_ sums_values_ p1_names_ p1_sizes_) none (h_go_tellGoing world_people_ world_gates_ world_hour_ world_texts_ world_ruling_ world_x_ sums_values_Z p1_names_ p1_sizes_) := by
  refine Ctr.start pn_go [some (.ref 0), some (.ref 4), some (.int l2), some (.int l3)] (Nat.le_of_ble_eq_true rfl) rfl ?_
  unfold f_go_tellGoing at hr
  refine AJ.g sK_go_tellGoing 0 2 (True) 2 [some (.ref 0), some (.ref 4), some (.int l2), some (.int l3)] [.int l2, .ref 4] (h_go_tellGoing world_people_ world_gates_ world_hour_ world_texts_ world_ruling_ world_x_ sums_values_ p1_names_ p1_sizes_) rfl trivial ?_
  refine k_b1 hr (fun r1 e11 hr => ?_)
  refine AJ.eV mk_town_nameOf (SK.at sK_go_tellGoing 2 rfl) lk_1_46 (c_town_nameOf (names_ := p1_names_) e11) [4, 5] [6, 18] [] [] 5 [.int r1] (h_go_tellGoing world_people_ world_gates_ world_hour_ world_texts_ world_ruling_ world_x_ sums_values_ p1_names_ p1_sizes_) rfl rfl rfl rfl rfl (by decide +kernel) rfl rfl rfl rfl rfl (Nat.le_of_ble_eq_true rfl) rfl rfl rfl ?_
  refine AJ.g sK_go_tellGoing 3 7 (inb 1 8 ∧ True) 18 [some (.ref 0), some (.ref 4), some (.int l2), some (.int l3), some (.int r1)] [] (h_go_tellGoing world_people_ world_gates_ world_hour_ world_texts_ world_ruling_ world_x_ (upd sums_values_ 1 r1) p1_names_ p1_sizes_) rfl ⟨by decide, trivial⟩ ?_
  replace hr := k_bnd hr
  generalize (upd sums_values_ 1 r1 : Nat → Int32) = sums_values_2 at hr ⊢
  refine AJ.g sK_go_tellGoing 10 6 (inb 3 8 ∧ True) 28 [some (.ref 0), some (.ref 4), some (.int l2), some (.int l3), some (.int r1)] [] (h_go_tellGoing world_people_ world_gates_ world_hour_ world_texts_ world_ruling_ world_x_ (upd sums_values_2 3 l2) p1_names_ p1_sizes_) rfl ⟨by decide, trivial⟩ ?_
  replace hr := k_bnd hr
  generalize (upd sums_values_2 3 l2 : Nat → Int32) = sums_values_3 at hr ⊢
  refine AJ.g sK_go_tellGoing 16 6 (inb 4 8 ∧ True) 38 [some (.ref 0), some (.ref 4), some (.int l2), some (.int l3), some (.int r1)] [] (h_go_tellGoing world_people_ world_gates_ world_hour_ world_texts_ world_ruling_ world_x_ (upd sums_values_3 4 l3) p1_names_ p1_sizes_) rfl ⟨by decide, trivial⟩ ?_
  replace hr := k_bnd hr
  generalize (upd sums_values_3 4 l3 : Nat → Int32) = sums_values_4 at hr ⊢
  refine AJ.g sK_go_tellGoing 22 6 (True) 48 [some (.ref 0), some (.ref 4), some (.int l2), some (.int l3), some (.int r1)] [.int l3, .ref 4, .int 5, .ref 3] (h_go_tellGoing world_people_ world_gates_ world_hour_ world_texts_ world_ruling_ world_x_ sums_values_4 p1_names_ p1_sizes_) rfl trivial ?_
  refine k_b1 hr (fun r5 e10 hr => ?_)
  refine AJ.eV mk_town_sizeOf (SK.at sK_go_tellGoing 28 rfl) lk_1_50 (c_town_sizeOf (sizes_ := p1_sizes_) e10) [4, 6] [5, 18] [] [.int 5, .ref 3] 51 [.int r5, .int 5, .ref 3] (h_go_tellGoing world_people_ world_gates_ world_hour_ world_texts_ world_ruling_ world_x_ sums_values_4 p1_names_ p1_sizes_) rfl rfl rfl rfl rfl (by decide +kernel) rfl rfl rfl rfl rfl (Nat.le_of_ble_eq_true rfl) rfl rfl rfl ?_
  refine AJ.g sK_go_tellGoing 29 1 (inb 5 8 ∧ True) 52 [some (.ref 0), some (.ref 4), some (.int l2), some (.int l3), some (.int r1)] [] (h_go_tellGoing world_people_ world_gates_ world_hour_ world_texts_ world_ruling_ world_x_ (upd sums_values_4 5 r5) p1_names_ p1_sizes_) rfl ⟨by decide, trivial⟩ ?_
  replace hr := k_bnd hr
  generalize (upd sums_values_4 5 r5 : Nat → Int32) = sums_values_6 at hr ⊢
  refine AJ.g sK_go_tellGoing 30 8 (inb 6 8 ∧ True) 69 [some (.ref 0), some (.ref 4), some (.int l2), some (.int l3), some (.int r1)] [] (h_go_tellGoing world_people_ world_gates_ world_hour_ world_texts_ world_ruling_ world_x_ (upd sums_values_6 6 world_hour_) p1_names_ p1_sizes_) rfl ⟨by decide, trivial⟩ ?_
  replace hr := k_bnd hr
  generalize (upd sums_values_6 6 world_hour_ : Nat → Int32) = sums_values_7 at hr ⊢
  refine AJ.g sK_go_tellGoing 38 6 (True) 81 [some (.ref 0), some (.ref 4), some (.int l2), some (.int l3), some (.int r1)] [.int (-1), .int r1, .int 7, .ref 3] (h_go_tellGoing world_people_ world_gates_ world_hour_ world_texts_ world_ruling_ world_x_ sums_values_7 p1_names_ p1_sizes_) rfl trivial ?_
  refine AJ.iF hr (SK.at sK_go_tellGoing 44 rfl) 88 84 rfl rfl rfl (fun hr => ?_) (fun hr => ?_)
  · refine AJ.g sK_go_tellGoing 45 2 (True) 89 [some (.ref 0), some (.ref 4), some (.int l2), some (.int l3), some (.int r1)] [.int 1, .int 7, .ref 3] (h_go_tellGoing world_people_ world_gates_ world_hour_ world_texts_ world_ruling_ world_x_ sums_values_7 p1_names_ p1_sizes_) rfl trivial ?_
    refine AJ.g sK_go_tellGoing 48 1 (inb 7 8 ∧ True) 90 [some (.ref 0), some (.ref 4), some (.int l2), some (.int l3), some (.int r1)] [] (h_go_tellGoing world_people_ world_gates_ world_hour_ world_texts_ world_ruling_ world_x_ (upd sums_values_7 7 1) p1_names_ p1_sizes_) rfl ⟨by decide, trivial⟩ ?_
    replace hr := k_bnd hr
    generalize (upd sums_values_7 7 1 : Nat → Int32) = sums_values_9 at hr ⊢
    cases hr
    exact AJ.xv (SK.at sK_go_tellGoing 49 rfl) rfl
  · refine AJ.g sK_go_tellGoing 47 1 (True) 89 [some (.ref 0), some (.ref 4), some (.int l2), some (.int l3), some (.int r1)] [.int 0, .int 7, .ref 3] (h_go_tellGoing world_people_ world_gates_ world_hour_ world_texts_ world_ruling_ world_x_ sums_values_7 p1_names_ p1_sizes_) rfl trivial ?_
    refine AJ.g sK_go_tellGoing 48 1 (inb 7 8 ∧ True) 90 [some (.ref 0), some (.ref 4), some (.int l2), some (.int l3), some (.int r1)] [] (h_go_tellGoing world_people_ world_gates_ world_hour_ world_texts_ world_ruling_ world_x_ (upd sums_values_7 7 0) p1_names_ p1_sizes_) rfl ⟨by decide, trivial⟩ ?_
    replace hr := k_bnd hr
    generalize (upd sums_values_7 7 0 : Nat → Int32) = sums_values_8 at hr ⊢
    cases hr
    exact AJ.xv (SK.at sK_go_tellGoing 49 rfl) rfl
theorem sK_law_codeAt : SK M_law_codeAt q_law_codeAt := sk_law_codeAt
set_option maxRecDepth 100000 in
set_option maxHeartbeats 4000000 in
theorem c_law_codeAt {d : Nat} {codeLength_ : Int32} {size_ : Int32} {take_ : Int32} {fee_ : Int32} {code_ : Nat → Int32} {l1 : Int32} {r0 : Int32} (hr : f_law_codeAt codeLength_ code_ l1 = some r0) : Ctr (d + 1) M_law_codeAt [.ref 0, .int l1] (h_law_codeAt codeLength_ size_ take_ fee_ code_) (some (.int r0)) (h_law_codeAt codeLength_ size_ take_ fee_ code_) := by
  refine Ctr.start pn_law [some (.ref 0), some (.int l1)] (Nat.le_of_ble_eq_true rfl) rfl ?_
  unfold f_law_codeAt at hr
  refine AJ.g sK_law_codeAt 0 1 (True) 1 [some (.ref 0), some (.int l1)] [.int l1] (h_law_codeAt codeLength_ size_ take_ fee_ code_) rfl trivial ?_
  refine AJ.iT hr (SK.at sK_law_codeAt 1 rfl) 21 4 rfl rfl rfl (fun hr => ?_) (fun hr => ?_)
  · refine AJ.g sK_law_codeAt 11 1 (True) 22 [some (.ref 0), some (.int l1)] [.int 0] (h_law_codeAt codeLength_ size_ take_ fee_ code_) rfl trivial ?_
    cases hr
    exact AJ.xi (SK.at sK_law_codeAt 12 rfl) rfl
  · refine AJ.g sK_law_codeAt 2 3 (True) 9 [some (.ref 0), some (.int l1)] [.int codeLength_, .int l1] (h_law_codeAt codeLength_ size_ take_ fee_ code_) rfl trivial ?_
    refine AJ.iF hr (SK.at sK_law_codeAt 5 rfl) 21 12 rfl rfl rfl (fun hr => ?_) (fun hr => ?_)
    · refine k_grd hr (fun g1 hr => ?_)
      refine AJ.g sK_law_codeAt 6 5 (inb l1 300 ∧ True) 22 [some (.ref 0), some (.int l1)] [.int (code_ (ix l1))] (h_law_codeAt codeLength_ size_ take_ fee_ code_) rfl ⟨g1, trivial⟩ ?_
      cases hr
      exact AJ.xi (SK.at sK_law_codeAt 12 rfl) rfl
    · refine AJ.g sK_law_codeAt 11 1 (True) 22 [some (.ref 0), some (.int l1)] [.int 0] (h_law_codeAt codeLength_ size_ take_ fee_ code_) rfl trivial ?_
      cases hr
      exact AJ.xi (SK.at sK_law_codeAt 12 rfl) rfl
theorem sK_sums_worthOfBoth : SK M_sums_worthOfBoth q_sums_worthOfBoth := sk_sums_worthOfBoth
set_option maxRecDepth 100000 in
set_option maxHeartbeats 4000000 in
theorem c_sums_worthOfBoth {d : Nat}  {l0 : Int32} {l1 : Int64} {l3 : Int64} {r0 : Int64} (hr : f_sums_worthOfBoth l0 l1 l3 = some r0) : Ctr (d + 1) M_sums_worthOfBoth [.int l0, .long l1, .long l3] [] (some (.long r0)) [] := by
  refine Ctr.start pn_sums [some (.int l0), some (.long l1), none, some (.long l3), none] (Nat.le_of_ble_eq_true rfl) rfl ?_
  unfold f_sums_worthOfBoth at hr
  refine AJ.g sK_sums_worthOfBoth 0 1 (True) 1 [some (.int l0), some (.long l1), none, some (.long l3), none] [.int l0] [] rfl trivial ?_
  refine k_ite hr (fun hc hr => ?_) (fun n3 hr => ?_)
  · refine AJ.tsIn sw_sums_worthOfBoth_1 (by rw [hc]; decide) (by rw [hc]; decide) (by rw [hc]; rfl) rfl ?_
    refine AJ.g sK_sums_worthOfBoth 33 3 (True) 155 [some (.int l0), some (.long l1), none, some (.long l3), none] [.int (lg_cmp l1 l3)] [] rfl trivial ?_
    refine AJ.iF hr (SK.at sK_sums_worthOfBoth 36 rfl) 162 158 rfl rfl rfl (fun hr => ?_) (fun hr => ?_)
    · refine AJ.g sK_sums_worthOfBoth 37 2 (True) 163 [some (.int l0), some (.long l1), none, some (.long l3), none] [.long 1] [] rfl trivial ?_
      cases hr
      exact AJ.xl (SK.at sK_sums_worthOfBoth 40 rfl) rfl
    · refine AJ.g sK_sums_worthOfBoth 39 1 (True) 163 [some (.int l0), some (.long l1), none, some (.long l3), none] [.long 0] [] rfl trivial ?_
      cases hr
      exact AJ.xl (SK.at sK_sums_worthOfBoth 40 rfl) rfl
  · refine k_ite hr (fun hc hr => ?_) (fun n4 hr => ?_)
    · refine AJ.tsIn sw_sums_worthOfBoth_1 (by rw [hc]; decide) (by rw [hc]; decide) (by rw [hc]; rfl) rfl ?_
      refine AJ.g sK_sums_worthOfBoth 49 3 (True) 179 [some (.int l0), some (.long l1), none, some (.long l3), none] [.int (lg_cmp l1 l3)] [] rfl trivial ?_
      refine AJ.iF hr (SK.at sK_sums_worthOfBoth 52 rfl) 186 182 rfl rfl rfl (fun hr => ?_) (fun hr => ?_)
      · refine AJ.g sK_sums_worthOfBoth 53 2 (True) 187 [some (.int l0), some (.long l1), none, some (.long l3), none] [.long 1] [] rfl trivial ?_
        cases hr
        exact AJ.xl (SK.at sK_sums_worthOfBoth 56 rfl) rfl
      · refine AJ.g sK_sums_worthOfBoth 55 1 (True) 187 [some (.int l0), some (.long l1), none, some (.long l3), none] [.long 0] [] rfl trivial ?_
        cases hr
        exact AJ.xl (SK.at sK_sums_worthOfBoth 56 rfl) rfl
    · refine k_ite hr (fun hc hr => ?_) (fun n5 hr => ?_)
      · refine AJ.tsIn sw_sums_worthOfBoth_1 (by rw [hc]; decide) (by rw [hc]; decide) (by rw [hc]; rfl) rfl ?_
        refine AJ.g sK_sums_worthOfBoth 65 3 (True) 203 [some (.int l0), some (.long l1), none, some (.long l3), none] [.int (lg_cmp l1 l3)] [] rfl trivial ?_
        refine AJ.iF hr (SK.at sK_sums_worthOfBoth 68 rfl) 210 206 rfl rfl rfl (fun hr => ?_) (fun hr => ?_)
        · refine AJ.g sK_sums_worthOfBoth 69 2 (True) 211 [some (.int l0), some (.long l1), none, some (.long l3), none] [.long 1] [] rfl trivial ?_
          cases hr
          exact AJ.xl (SK.at sK_sums_worthOfBoth 72 rfl) rfl
        · refine AJ.g sK_sums_worthOfBoth 71 1 (True) 211 [some (.int l0), some (.long l1), none, some (.long l3), none] [.long 0] [] rfl trivial ?_
          cases hr
          exact AJ.xl (SK.at sK_sums_worthOfBoth 72 rfl) rfl
      · refine k_ite hr (fun hc hr => ?_) (fun n6 hr => ?_)
        · refine AJ.tsIn sw_sums_worthOfBoth_1 (by rw [hc]; decide) (by rw [hc]; decide) (by rw [hc]; rfl) rfl ?_
          refine AJ.g sK_sums_worthOfBoth 73 3 (True) 215 [some (.int l0), some (.long l1), none, some (.long l3), none] [.int (lg_cmp l1 l3)] [] rfl trivial ?_
          refine AJ.iT hr (SK.at sK_sums_worthOfBoth 76 rfl) 222 218 rfl rfl rfl (fun hr => ?_) (fun hr => ?_)
          · refine AJ.g sK_sums_worthOfBoth 79 1 (True) 223 [some (.int l0), some (.long l1), none, some (.long l3), none] [.long 0] [] rfl trivial ?_
            cases hr
            exact AJ.xl (SK.at sK_sums_worthOfBoth 80 rfl) rfl
          · refine AJ.g sK_sums_worthOfBoth 77 2 (True) 223 [some (.int l0), some (.long l1), none, some (.long l3), none] [.long 1] [] rfl trivial ?_
            cases hr
            exact AJ.xl (SK.at sK_sums_worthOfBoth 80 rfl) rfl
        · refine k_ite hr (fun hc hr => ?_) (fun n7 hr => ?_)
          · refine AJ.tsIn sw_sums_worthOfBoth_1 (by rw [hc]; decide) (by rw [hc]; decide) (by rw [hc]; rfl) rfl ?_
            refine AJ.g sK_sums_worthOfBoth 1 3 (True) 115 [some (.int l0), some (.long l1), none, some (.long l3), none] [.long (l1 + l3)] [] rfl trivial ?_
            cases hr
            exact AJ.xl (SK.at sK_sums_worthOfBoth 4 rfl) rfl
          · refine k_ite hr (fun hc hr => ?_) (fun n8 hr => ?_)
            · refine AJ.tsIn sw_sums_worthOfBoth_1 (by rw [hc]; decide) (by rw [hc]; decide) (by rw [hc]; rfl) rfl ?_
              refine AJ.g sK_sums_worthOfBoth 5 3 (True) 119 [some (.int l0), some (.long l1), none, some (.long l3), none] [.long (l1 - l3)] [] rfl trivial ?_
              cases hr
              exact AJ.xl (SK.at sK_sums_worthOfBoth 8 rfl) rfl
            · refine k_ite hr (fun hc hr => ?_) (fun n9 hr => ?_)
              · refine AJ.tsIn sw_sums_worthOfBoth_1 (by rw [hc]; decide) (by rw [hc]; decide) (by rw [hc]; rfl) rfl ?_
                refine AJ.g sK_sums_worthOfBoth 9 3 (True) 123 [some (.int l0), some (.long l1), none, some (.long l3), none] [.long (l1 * l3)] [] rfl trivial ?_
                cases hr
                exact AJ.xl (SK.at sK_sums_worthOfBoth 12 rfl) rfl
              · refine k_ite hr (fun hc hr => ?_) (fun n10 hr => ?_)
                · refine AJ.tsIn sw_sums_worthOfBoth_1 (by rw [hc]; decide) (by rw [hc]; decide) (by rw [hc]; rfl) rfl ?_
                  refine AJ.g sK_sums_worthOfBoth 13 3 (True) 127 [some (.int l0), some (.long l1), none, some (.long l3), none] [.int (lg_cmp l3 0)] [] rfl trivial ?_
                  refine AJ.iF hr (SK.at sK_sums_worthOfBoth 16 rfl) 134 130 rfl rfl rfl (fun hr => ?_) (fun hr => ?_)
                  · refine AJ.g sK_sums_worthOfBoth 17 2 (True) 137 [some (.int l0), some (.long l1), none, some (.long l3), none] [.long 0] [] rfl trivial ?_
                    cases hr
                    exact AJ.xl (SK.at sK_sums_worthOfBoth 22 rfl) rfl
                  · refine k_grd hr (fun g2 hr => ?_)
                    refine AJ.g sK_sums_worthOfBoth 19 3 (¬ l3 = 0 ∧ True) 137 [some (.int l0), some (.long l1), none, some (.long l3), none] [.long (l1 / l3)] [] rfl ⟨g2, trivial⟩ ?_
                    cases hr
                    exact AJ.xl (SK.at sK_sums_worthOfBoth 22 rfl) rfl
                · refine k_ite hr (fun hc hr => ?_) (fun n11 hr => ?_)
                  · refine AJ.tsIn sw_sums_worthOfBoth_1 (by rw [hc]; decide) (by rw [hc]; decide) (by rw [hc]; rfl) rfl ?_
                    refine AJ.g sK_sums_worthOfBoth 23 3 (True) 141 [some (.int l0), some (.long l1), none, some (.long l3), none] [.int (lg_cmp l3 0)] [] rfl trivial ?_
                    refine AJ.iF hr (SK.at sK_sums_worthOfBoth 26 rfl) 148 144 rfl rfl rfl (fun hr => ?_) (fun hr => ?_)
                    · refine AJ.g sK_sums_worthOfBoth 27 2 (True) 151 [some (.int l0), some (.long l1), none, some (.long l3), none] [.long 0] [] rfl trivial ?_
                      cases hr
                      exact AJ.xl (SK.at sK_sums_worthOfBoth 32 rfl) rfl
                    · refine k_grd hr (fun g1 hr => ?_)
                      refine AJ.g sK_sums_worthOfBoth 29 3 (¬ l3 = 0 ∧ True) 151 [some (.int l0), some (.long l1), none, some (.long l3), none] [.long (rem64 l1 l3)] [] rfl ⟨g1, trivial⟩ ?_
                      cases hr
                      exact AJ.xl (SK.at sK_sums_worthOfBoth 32 rfl) rfl
                  · refine k_ite hr (fun hc hr => ?_) (fun n12 hr => ?_)
                    · refine AJ.tsIn sw_sums_worthOfBoth_1 (by rw [hc]; decide) (by rw [hc]; decide) (by rw [hc]; rfl) rfl ?_
                      refine AJ.g sK_sums_worthOfBoth 89 1 (True) 233 [some (.int l0), some (.long l1), none, some (.long l3), none] [.long 0] [] rfl trivial ?_
                      cases hr
                      exact AJ.xl (SK.at sK_sums_worthOfBoth 90 rfl) rfl
                    · refine k_ite hr (fun hc hr => ?_) (fun n13 hr => ?_)
                      · refine AJ.tsIn sw_sums_worthOfBoth_1 (by rw [hc]; decide) (by rw [hc]; decide) (by rw [hc]; rfl) rfl ?_
                        refine AJ.g sK_sums_worthOfBoth 89 1 (True) 233 [some (.int l0), some (.long l1), none, some (.long l3), none] [.long 0] [] rfl trivial ?_
                        cases hr
                        exact AJ.xl (SK.at sK_sums_worthOfBoth 90 rfl) rfl
                      · refine k_ite hr (fun hc hr => ?_) (fun n14 hr => ?_)
                        · refine AJ.tsIn sw_sums_worthOfBoth_1 (by rw [hc]; decide) (by rw [hc]; decide) (by rw [hc]; rfl) rfl ?_
                          refine AJ.g sK_sums_worthOfBoth 89 1 (True) 233 [some (.int l0), some (.long l1), none, some (.long l3), none] [.long 0] [] rfl trivial ?_
                          cases hr
                          exact AJ.xl (SK.at sK_sums_worthOfBoth 90 rfl) rfl
                        · refine k_ite hr (fun hc hr => ?_) (fun n15 hr => ?_)
                          · refine AJ.tsIn sw_sums_worthOfBoth_1 (by rw [hc]; decide) (by rw [hc]; decide) (by rw [hc]; rfl) rfl ?_
                            refine AJ.g sK_sums_worthOfBoth 41 3 (True) 167 [some (.int l0), some (.long l1), none, some (.long l3), none] [.int (lg_cmp l1 l3)] [] rfl trivial ?_
                            refine AJ.iT hr (SK.at sK_sums_worthOfBoth 44 rfl) 174 170 rfl rfl rfl (fun hr => ?_) (fun hr => ?_)
                            · refine AJ.g sK_sums_worthOfBoth 47 1 (True) 175 [some (.int l0), some (.long l1), none, some (.long l3), none] [.long 0] [] rfl trivial ?_
                              cases hr
                              exact AJ.xl (SK.at sK_sums_worthOfBoth 48 rfl) rfl
                            · refine AJ.g sK_sums_worthOfBoth 45 2 (True) 175 [some (.int l0), some (.long l1), none, some (.long l3), none] [.long 1] [] rfl trivial ?_
                              cases hr
                              exact AJ.xl (SK.at sK_sums_worthOfBoth 48 rfl) rfl
                          · refine k_ite hr (fun hc hr => ?_) (fun n16 hr => ?_)
                            · refine AJ.tsIn sw_sums_worthOfBoth_1 (by rw [hc]; decide) (by rw [hc]; decide) (by rw [hc]; rfl) rfl ?_
                              refine AJ.g sK_sums_worthOfBoth 57 3 (True) 191 [some (.int l0), some (.long l1), none, some (.long l3), none] [.int (lg_cmp l1 l3)] [] rfl trivial ?_
                              refine AJ.iT hr (SK.at sK_sums_worthOfBoth 60 rfl) 198 194 rfl rfl rfl (fun hr => ?_) (fun hr => ?_)
                              · refine AJ.g sK_sums_worthOfBoth 63 1 (True) 199 [some (.int l0), some (.long l1), none, some (.long l3), none] [.long 0] [] rfl trivial ?_
                                cases hr
                                exact AJ.xl (SK.at sK_sums_worthOfBoth 64 rfl) rfl
                              · refine AJ.g sK_sums_worthOfBoth 61 2 (True) 199 [some (.int l0), some (.long l1), none, some (.long l3), none] [.long 1] [] rfl trivial ?_
                                cases hr
                                exact AJ.xl (SK.at sK_sums_worthOfBoth 64 rfl) rfl
                            · refine k_ite hr (fun hc hr => ?_) (fun n17 hr => ?_)
                              · refine AJ.tsIn sw_sums_worthOfBoth_1 (by rw [hc]; decide) (by rw [hc]; decide) (by rw [hc]; rfl) rfl ?_
                                refine AJ.g sK_sums_worthOfBoth 89 1 (True) 233 [some (.int l0), some (.long l1), none, some (.long l3), none] [.long 0] [] rfl trivial ?_
                                cases hr
                                exact AJ.xl (SK.at sK_sums_worthOfBoth 90 rfl) rfl
                              · refine k_ite hr (fun hc hr => ?_) (fun n18 hr => ?_)
                                · refine AJ.tsIn sw_sums_worthOfBoth_1 (by rw [hc]; decide) (by rw [hc]; decide) (by rw [hc]; rfl) rfl ?_
                                  refine AJ.g sK_sums_worthOfBoth 89 1 (True) 233 [some (.int l0), some (.long l1), none, some (.long l3), none] [.long 0] [] rfl trivial ?_
                                  cases hr
                                  exact AJ.xl (SK.at sK_sums_worthOfBoth 90 rfl) rfl
                                · refine k_ite hr (fun hc hr => ?_) (fun n19 hr => ?_)
                                  · refine AJ.tsIn sw_sums_worthOfBoth_1 (by rw [hc]; decide) (by rw [hc]; decide) (by rw [hc]; rfl) rfl ?_
                                    refine AJ.g sK_sums_worthOfBoth 89 1 (True) 233 [some (.int l0), some (.long l1), none, some (.long l3), none] [.long 0] [] rfl trivial ?_
                                    cases hr
                                    exact AJ.xl (SK.at sK_sums_worthOfBoth 90 rfl) rfl
                                  · refine k_ite hr (fun hc hr => ?_) (fun n20 hr => ?_)
                                    · refine AJ.tsIn sw_sums_worthOfBoth_1 (by rw [hc]; decide) (by rw [hc]; decide) (by rw [hc]; rfl) rfl ?_
                                      refine AJ.g sK_sums_worthOfBoth 89 1 (True) 233 [some (.int l0), some (.long l1), none, some (.long l3), none] [.long 0] [] rfl trivial ?_
                                      cases hr
                                      exact AJ.xl (SK.at sK_sums_worthOfBoth 90 rfl) rfl
                                    · refine k_ite hr (fun hc hr => ?_) (fun n21 hr => ?_)
                                      · refine AJ.tsIn sw_sums_worthOfBoth_1 (by rw [hc]; decide) (by rw [hc]; decide) (by rw [hc]; rfl) rfl ?_
                                        refine AJ.g sK_sums_worthOfBoth 89 1 (True) 233 [some (.int l0), some (.long l1), none, some (.long l3), none] [.long 0] [] rfl trivial ?_
                                        cases hr
                                        exact AJ.xl (SK.at sK_sums_worthOfBoth 90 rfl) rfl
                                      · refine k_ite hr (fun hc hr => ?_) (fun n22 hr => ?_)
                                        · refine AJ.tsIn sw_sums_worthOfBoth_1 (by rw [hc]; decide) (by rw [hc]; decide) (by rw [hc]; rfl) rfl ?_
                                          refine AJ.g sK_sums_worthOfBoth 89 1 (True) 233 [some (.int l0), some (.long l1), none, some (.long l3), none] [.long 0] [] rfl trivial ?_
                                          cases hr
                                          exact AJ.xl (SK.at sK_sums_worthOfBoth 90 rfl) rfl
                                        · refine k_ite hr (fun hc hr => ?_) (fun n23 hr => ?_)
                                          · refine AJ.tsIn sw_sums_worthOfBoth_1 (by rw [hc]; decide) (by rw [hc]; decide) (by rw [hc]; rfl) rfl ?_
                                            refine AJ.g sK_sums_worthOfBoth 89 1 (True) 233 [some (.int l0), some (.long l1), none, some (.long l3), none] [.long 0] [] rfl trivial ?_
                                            cases hr
                                            exact AJ.xl (SK.at sK_sums_worthOfBoth 90 rfl) rfl
                                          · refine k_ite hr (fun hc hr => ?_) (fun n24 hr => ?_)
                                            · refine AJ.tsIn sw_sums_worthOfBoth_1 (by rw [hc]; decide) (by rw [hc]; decide) (by rw [hc]; rfl) rfl ?_
                                              refine AJ.g sK_sums_worthOfBoth 89 1 (True) 233 [some (.int l0), some (.long l1), none, some (.long l3), none] [.long 0] [] rfl trivial ?_
                                              cases hr
                                              exact AJ.xl (SK.at sK_sums_worthOfBoth 90 rfl) rfl
                                            · refine k_ite hr (fun hc hr => ?_) (fun n25 hr => ?_)
                                              · refine AJ.tsIn sw_sums_worthOfBoth_1 (by rw [hc]; decide) (by rw [hc]; decide) (by rw [hc]; rfl) rfl ?_
                                                refine AJ.g sK_sums_worthOfBoth 85 3 (True) 231 [some (.int l0), some (.long l1), none, some (.long l3), none] [.long (l1 ||| l3)] [] rfl trivial ?_
                                                cases hr
                                                exact AJ.xl (SK.at sK_sums_worthOfBoth 88 rfl) rfl
                                              · refine k_ite hr (fun hc hr => ?_) (fun n26 hr => ?_)
                                                · refine AJ.tsIn sw_sums_worthOfBoth_1 (by rw [hc]; decide) (by rw [hc]; decide) (by rw [hc]; rfl) rfl ?_
                                                  refine AJ.g sK_sums_worthOfBoth 81 3 (True) 227 [some (.int l0), some (.long l1), none, some (.long l3), none] [.long (l1 &&& l3)] [] rfl trivial ?_
                                                  cases hr
                                                  exact AJ.xl (SK.at sK_sums_worthOfBoth 84 rfl) rfl
                                                · refine AJ.tsOut sw_sums_worthOfBoth_1 (by have w0 : (l0 : Int32).toInt ≠ 3 := ne_toInt n3; have w1 : (l0 : Int32).toInt ≠ 4 := ne_toInt n4; have w2 : (l0 : Int32).toInt ≠ 5 := ne_toInt n5; have w3 : (l0 : Int32).toInt ≠ 6 := ne_toInt n6; have w4 : (l0 : Int32).toInt ≠ 7 := ne_toInt n7; have w5 : (l0 : Int32).toInt ≠ 8 := ne_toInt n8; have w6 : (l0 : Int32).toInt ≠ 9 := ne_toInt n9; have w7 : (l0 : Int32).toInt ≠ 10 := ne_toInt n10; have w8 : (l0 : Int32).toInt ≠ 11 := ne_toInt n11; have w9 : (l0 : Int32).toInt ≠ 12 := ne_toInt n12; have w10 : (l0 : Int32).toInt ≠ 13 := ne_toInt n13; have w11 : (l0 : Int32).toInt ≠ 14 := ne_toInt n14; have w12 : (l0 : Int32).toInt ≠ 15 := ne_toInt n15; have w13 : (l0 : Int32).toInt ≠ 16 := ne_toInt n16; have w14 : (l0 : Int32).toInt ≠ 17 := ne_toInt n17; have w15 : (l0 : Int32).toInt ≠ 18 := ne_toInt n18; have w16 : (l0 : Int32).toInt ≠ 19 := ne_toInt n19; have w17 : (l0 : Int32).toInt ≠ 20 := ne_toInt n20; have w18 : (l0 : Int32).toInt ≠ 21 := ne_toInt n21; have w19 : (l0 : Int32).toInt ≠ 22 := ne_toInt n22; have w20 : (l0 : Int32).toInt ≠ 23 := ne_toInt n23; have w21 : (l0 : Int32).toInt ≠ 24 := ne_toInt n24; have w22 : (l0 : Int32).toInt ≠ 25 := ne_toInt n25; have w23 : (l0 : Int32).toInt ≠ 26 := ne_toInt n26; omega) rfl ?_
                                                  refine AJ.g sK_sums_worthOfBoth 89 1 (True) 233 [some (.int l0), some (.long l1), none, some (.long l3), none] [.long 0] [] rfl trivial ?_
                                                  cases hr
                                                  exact AJ.xl (SK.at sK_sums_worthOfBoth 90 rfl) rfl
theorem sK_sums_worthOf : SK M_sums_worthOf q_sums_worthOf := sk_sums_worthOf
set_option maxRecDepth 100000 in
set_option maxHeartbeats 4000000 in
theorem jt_sums_worthOf_173_16 {d : Nat} {stack_ : Nat → Int32} {values_ : Nat → Int32} {p1_codeLength_ : Int32} {p1_size_ : Int32} {p1_take_ : Int32} {p1_fee_ : Int32} {p1_to_ : Nat → Int32} {p1_from_ : Nat → Int32} {p1_code_ : Nat → Int32} {l3 : Int32} {l4 : Int32} {l5 : Int32} {l6 : Int32}  {rr : Option Value} {h0 hF : List va_E} {x : (Int32 × Int32 × (Nat → Int32)) ⊕ (Nat → Int32)} (hr : fj_sums_worthOf_173_16 stack_ values_ p1_codeLength_ p1_code_ l3 l4 l5 l6 = some x) (hx : Sum.elim (fun s : (Int32 × Int32 × (Nat → Int32)) => AJ (M_sums_worthOf, d + 2, rr, h0, hF) 16 [some (.ref 0), some (.ref 3), none, some (.int s.1), some (.int l4), some (.int s.2.1)] [] (h_sums_worthOf s.2.2 values_ p1_codeLength_ p1_size_ p1_take_ p1_fee_ p1_to_ p1_from_ p1_code_)) (fun s : Nat → Int32 => AJ (M_sums_worthOf, d + 2, rr, h0, hF) 199 [some (.ref 0)] [] (h_sums_worthOf s values_ p1_codeLength_ p1_size_ p1_take_ p1_fee_ p1_to_ p1_from_ p1_code_)) x) : AJ (M_sums_worthOf, d + 2, rr, h0, hF) 173 [some (.ref 0), some (.ref 3), none, some (.int l3), some (.int l4), some (.int l5), some (.int l6)] [] (h_sums_worthOf stack_ values_ p1_codeLength_ p1_size_ p1_take_ p1_fee_ p1_to_ p1_from_ p1_code_) := by
  unfold fj_sums_worthOf_173_16 at hr
  refine AJ.g sK_sums_worthOf 94 4 (True) 179 [some (.ref 0), some (.ref 3), none, some (.int l3), some (.int l4), some (.int l5), some (.int l6)] [.int 64, .int l3] (h_sums_worthOf stack_ values_ p1_codeLength_ p1_size_ p1_take_ p1_fee_ p1_to_ p1_from_ p1_code_) rfl trivial ?_
  refine AJ.iF hr (SK.at sK_sums_worthOf 98 rfl) 193 182 rfl rfl rfl (fun hr => ?_) (fun hr => ?_)
  · refine k_grd hr (fun g6 hr => ?_)
    refine AJ.g sK_sums_worthOf 99 5 (inb l3 64 ∧ True) 190 [some (.ref 0), some (.ref 3), none, some (.int l3), some (.int l4), some (.int l5), some (.int l6)] [] (h_sums_worthOf (upd stack_ (ix l3) l6) values_ p1_codeLength_ p1_size_ p1_take_ p1_fee_ p1_to_ p1_from_ p1_code_) rfl ⟨g6, trivial⟩ ?_
    replace hr := k_bnd hr
    generalize (upd stack_ (ix l3) l6 : Nat → Int32) = stack_7 at hr ⊢
    refine AJ.g sK_sums_worthOf 104 1 (True) 193 [some (.ref 0), some (.ref 3), none, some (.int (l3 + 1)), some (.int l4), some (.int l5), some (.int l6)] [] (h_sums_worthOf stack_7 values_ p1_codeLength_ p1_size_ p1_take_ p1_fee_ p1_to_ p1_from_ p1_code_) rfl trivial ?_
    refine AJ.g sK_sums_worthOf 105 2 (True) 16 [some (.ref 0), some (.ref 3), none, some (.int (l3 + 1)), some (.int l4), some (.int (l5 + 1)), some (.int l6)] [] (h_sums_worthOf stack_7 values_ p1_codeLength_ p1_size_ p1_take_ p1_fee_ p1_to_ p1_from_ p1_code_) rfl trivial ?_
    cases hr
    refine AJ.fg [true, true, false, true, true, true] [some (.ref 0), some (.ref 3), none, some (.int (l3 + 1)), some (.int l4), some (.int (l5 + 1))] rfl ?_
    exact hx
  · refine AJ.g sK_sums_worthOf 105 2 (True) 16 [some (.ref 0), some (.ref 3), none, some (.int l3), some (.int l4), some (.int (l5 + 1)), some (.int l6)] [] (h_sums_worthOf stack_ values_ p1_codeLength_ p1_size_ p1_take_ p1_fee_ p1_to_ p1_from_ p1_code_) rfl trivial ?_
    cases hr
    refine AJ.fg [true, true, false, true, true, true] [some (.ref 0), some (.ref 3), none, some (.int l3), some (.int l4), some (.int (l5 + 1))] rfl ?_
    exact hx
set_option maxRecDepth 100000 in
set_option maxHeartbeats 4000000 in
theorem jt_sums_worthOf_82_16 {d : Nat} {stack_ : Nat → Int32} {values_ : Nat → Int32} {p1_codeLength_ : Int32} {p1_size_ : Int32} {p1_take_ : Int32} {p1_fee_ : Int32} {p1_to_ : Nat → Int32} {p1_from_ : Nat → Int32} {p1_code_ : Nat → Int32} {l3 : Int32} {l4 : Int32} {l5 : Int32} {l7 : Int32}  {rr : Option Value} {h0 hF : List va_E} {x : (Int32 × Int32 × (Nat → Int32)) ⊕ (Nat → Int32)} (hr : fj_sums_worthOf_82_16 stack_ values_ p1_codeLength_ p1_code_ l3 l4 l5 l7 = some x) (hx : Sum.elim (fun s : (Int32 × Int32 × (Nat → Int32)) => AJ (M_sums_worthOf, d + 2, rr, h0, hF) 16 [some (.ref 0), some (.ref 3), none, some (.int s.1), some (.int l4), some (.int s.2.1)] [] (h_sums_worthOf s.2.2 values_ p1_codeLength_ p1_size_ p1_take_ p1_fee_ p1_to_ p1_from_ p1_code_)) (fun s : Nat → Int32 => AJ (M_sums_worthOf, d + 2, rr, h0, hF) 199 [some (.ref 0)] [] (h_sums_worthOf s values_ p1_codeLength_ p1_size_ p1_take_ p1_fee_ p1_to_ p1_from_ p1_code_)) x) : AJ (M_sums_worthOf, d + 2, rr, h0, hF) 82 [some (.ref 0), some (.ref 3), none, some (.int l3), some (.int l4), some (.int l5), none, some (.int l7)] [] (h_sums_worthOf stack_ values_ p1_codeLength_ p1_size_ p1_take_ p1_fee_ p1_to_ p1_from_ p1_code_) := by
  unfold fj_sums_worthOf_82_16 at hr
  refine AJ.g sK_sums_worthOf 41 4 (True) 86 [some (.ref 0), some (.ref 3), none, some (.int l3), some (.int l4), some (.int l5), none, some (.int l7)] [.int (l3 - 1), .int 0] (h_sums_worthOf stack_ values_ p1_codeLength_ p1_size_ p1_take_ p1_fee_ p1_to_ p1_from_ p1_code_) rfl trivial ?_
  refine k_b1 hr (fun r4 e9 hr => ?_)
  refine AJ.eS mk_math_max_II (SK.at sK_sums_worthOf 45 rfl) lk_6_30 (c_math_max_II  e9) [] [] [] [] 89 [.int r4] (h_sums_worthOf stack_ values_ p1_codeLength_ p1_size_ p1_take_ p1_fee_ p1_to_ p1_from_ p1_code_) rfl rfl (by decide +kernel) rfl rfl rfl rfl rfl (Nat.le_of_ble_eq_true rfl) rfl rfl rfl ?_
  refine AJ.g sK_sums_worthOf 46 3 (True) 94 [some (.ref 0), some (.ref 3), none, some (.int r4), some (.int l4), some (.int l5), none, some (.int l7)] [.int 17, .int l7] (h_sums_worthOf stack_ values_ p1_codeLength_ p1_size_ p1_take_ p1_fee_ p1_to_ p1_from_ p1_code_) rfl trivial ?_
  refine AJ.iF hr (SK.at sK_sums_worthOf 49 rfl) 107 97 rfl rfl rfl (fun hr => ?_) (fun hr => ?_)
  · refine k_grd hr (fun g8 hr => ?_)
    refine AJ.g sK_sums_worthOf 50 6 (inb r4 64 ∧ True) 115 [some (.ref 0), some (.ref 3), none, some (.int r4), some (.int l4), some (.int l5), none, some (.int l7)] [.int (-(stack_ (ix r4)))] (h_sums_worthOf stack_ values_ p1_codeLength_ p1_size_ p1_take_ p1_fee_ p1_to_ p1_from_ p1_code_) rfl ⟨g8, trivial⟩ ?_
    refine AJ.g sK_sums_worthOf 62 2 (True) 173 [some (.ref 0), some (.ref 3), none, some (.int r4), some (.int l4), some (.int l5), some (.int (-(stack_ (ix r4)))), some (.int l7)] [] (h_sums_worthOf stack_ values_ p1_codeLength_ p1_size_ p1_take_ p1_fee_ p1_to_ p1_from_ p1_code_) rfl trivial ?_
    refine AJ.fg [true, true, false, true, true, true, true] [some (.ref 0), some (.ref 3), none, some (.int r4), some (.int l4), some (.int l5), some (.int (-(stack_ (ix r4))))] rfl ?_
    exact jt_sums_worthOf_173_16 hr hx
  · refine k_grd hr (fun g5 hr => ?_)
    refine AJ.g sK_sums_worthOf 56 6 (inb r4 64 ∧ True) 115 [some (.ref 0), some (.ref 3), none, some (.int r4), some (.int l4), some (.int l5), none, some (.int l7)] [.int (1 - (stack_ (ix r4)))] (h_sums_worthOf stack_ values_ p1_codeLength_ p1_size_ p1_take_ p1_fee_ p1_to_ p1_from_ p1_code_) rfl ⟨g5, trivial⟩ ?_
    refine AJ.g sK_sums_worthOf 62 2 (True) 173 [some (.ref 0), some (.ref 3), none, some (.int r4), some (.int l4), some (.int l5), some (.int (1 - (stack_ (ix r4)))), some (.int l7)] [] (h_sums_worthOf stack_ values_ p1_codeLength_ p1_size_ p1_take_ p1_fee_ p1_to_ p1_from_ p1_code_) rfl trivial ?_
    refine AJ.fg [true, true, false, true, true, true, true] [some (.ref 0), some (.ref 3), none, some (.int r4), some (.int l4), some (.int l5), some (.int (1 - (stack_ (ix r4))))] rfl ?_
    exact jt_sums_worthOf_173_16 hr hx
set_option maxRecDepth 100000 in
set_option maxHeartbeats 4000000 in
theorem jt_sums_worthOf_68_16 {d : Nat} {stack_ : Nat → Int32} {values_ : Nat → Int32} {p1_codeLength_ : Int32} {p1_size_ : Int32} {p1_take_ : Int32} {p1_fee_ : Int32} {p1_to_ : Nat → Int32} {p1_from_ : Nat → Int32} {p1_code_ : Nat → Int32} {l3 : Int32} {l4 : Int32} {l5 : Int32} {l6 : Int32} {l7 : Int32}  {rr : Option Value} {h0 hF : List va_E} {x : (Int32 × Int32 × (Nat → Int32)) ⊕ (Nat → Int32)} (hr : fj_sums_worthOf_68_16 stack_ values_ p1_codeLength_ p1_code_ l3 l4 l5 l6 l7 = some x) (hx : Sum.elim (fun s : (Int32 × Int32 × (Nat → Int32)) => AJ (M_sums_worthOf, d + 2, rr, h0, hF) 16 [some (.ref 0), some (.ref 3), none, some (.int s.1), some (.int l4), some (.int s.2.1)] [] (h_sums_worthOf s.2.2 values_ p1_codeLength_ p1_size_ p1_take_ p1_fee_ p1_to_ p1_from_ p1_code_)) (fun s : Nat → Int32 => AJ (M_sums_worthOf, d + 2, rr, h0, hF) 199 [some (.ref 0)] [] (h_sums_worthOf s values_ p1_codeLength_ p1_size_ p1_take_ p1_fee_ p1_to_ p1_from_ p1_code_)) x) : AJ (M_sums_worthOf, d + 2, rr, h0, hF) 68 [some (.ref 0), some (.ref 3), none, some (.int l3), some (.int l4), some (.int l5), some (.int l6), some (.int l7)] [] (h_sums_worthOf stack_ values_ p1_codeLength_ p1_size_ p1_take_ p1_fee_ p1_to_ p1_from_ p1_code_) := by
  unfold fj_sums_worthOf_68_16 at hr
  refine AJ.g sK_sums_worthOf 35 2 (True) 72 [some (.ref 0), some (.ref 3), none, some (.int l3), some (.int l4), some (.int l5), some (.int l6), some (.int l7)] [.int 17, .int l7] (h_sums_worthOf stack_ values_ p1_codeLength_ p1_size_ p1_take_ p1_fee_ p1_to_ p1_from_ p1_code_) rfl trivial ?_
  refine AJ.iT hr (SK.at sK_sums_worthOf 37 rfl) 82 75 rfl rfl rfl (fun hr => ?_) (fun hr => ?_)
  · refine AJ.fg [true, true, false, true, true, true, false, true] [some (.ref 0), some (.ref 3), none, some (.int l3), some (.int l4), some (.int l5), none, some (.int l7)] rfl ?_
    exact jt_sums_worthOf_82_16 hr hx
  · refine AJ.g sK_sums_worthOf 38 2 (True) 79 [some (.ref 0), some (.ref 3), none, some (.int l3), some (.int l4), some (.int l5), some (.int l6), some (.int l7)] [.int 27, .int l7] (h_sums_worthOf stack_ values_ p1_codeLength_ p1_size_ p1_take_ p1_fee_ p1_to_ p1_from_ p1_code_) rfl trivial ?_
    refine AJ.iF hr (SK.at sK_sums_worthOf 40 rfl) 120 82 rfl rfl rfl (fun hr => ?_) (fun hr => ?_)
    · refine AJ.fg [true, true, false, true, true, true, false, true] [some (.ref 0), some (.ref 3), none, some (.int l3), some (.int l4), some (.int l5), none, some (.int l7)] rfl ?_
      exact jt_sums_worthOf_82_16 hr hx
    · refine AJ.g sK_sums_worthOf 64 1 (True) 122 [some (.ref 0), some (.ref 3), none, some (.int l3), some (.int l4), some (.int l5), some (.int l6), some (.int l7)] [.int l7] (h_sums_worthOf stack_ values_ p1_codeLength_ p1_size_ p1_take_ p1_fee_ p1_to_ p1_from_ p1_code_) rfl trivial ?_
      refine AJ.iT hr (SK.at sK_sums_worthOf 65 rfl) 173 125 rfl rfl rfl (fun hr => ?_) (fun hr => ?_)
      · refine AJ.fg [true, true, false, true, true, true, true] [some (.ref 0), some (.ref 3), none, some (.int l3), some (.int l4), some (.int l5), some (.int l6)] rfl ?_
        exact jt_sums_worthOf_173_16 hr hx
      · refine AJ.g sK_sums_worthOf 66 4 (True) 129 [some (.ref 0), some (.ref 3), none, some (.int l3), some (.int l4), some (.int l5), some (.int l6), some (.int l7)] [.int (l3 - 2), .int 0] (h_sums_worthOf stack_ values_ p1_codeLength_ p1_size_ p1_take_ p1_fee_ p1_to_ p1_from_ p1_code_) rfl trivial ?_
        refine k_b1 hr (fun r10 e19 hr => ?_)
        refine AJ.eS mk_math_max_II (SK.at sK_sums_worthOf 70 rfl) lk_6_30 (c_math_max_II  e19) [] [] [] [] 132 [.int r10] (h_sums_worthOf stack_ values_ p1_codeLength_ p1_size_ p1_take_ p1_fee_ p1_to_ p1_from_ p1_code_) rfl rfl (by decide +kernel) rfl rfl rfl rfl rfl (Nat.le_of_ble_eq_true rfl) rfl rfl rfl ?_
        refine k_grd hr (fun g11 hr => ?_)
        refine k_grd hr (fun g12 hr => ?_)
        refine AJ.g sK_sums_worthOf 71 14 (inb r10 64 ∧ inb (r10 + 1) 64 ∧ True) 151 [some (.ref 0), some (.ref 3), none, some (.int r10), some (.int l4), some (.int l5), some (.int l6), some (.int l7)] [.long ((stack_ (ix (r10 + 1))).toInt64), .long ((stack_ (ix r10)).toInt64), .int l7] (h_sums_worthOf stack_ values_ p1_codeLength_ p1_size_ p1_take_ p1_fee_ p1_to_ p1_from_ p1_code_) rfl ⟨g11, g12, trivial⟩ ?_
        refine k_b1 hr (fun r13 e18 hr => ?_)
        refine AJ.eS mk_sums_worthOfBoth (SK.at sK_sums_worthOf 85 rfl) lk_6_36 (c_sums_worthOfBoth  e18) [] [] [] [] 154 [.long r13] (h_sums_worthOf stack_ values_ p1_codeLength_ p1_size_ p1_take_ p1_fee_ p1_to_ p1_from_ p1_code_) rfl rfl (by decide +kernel) rfl rfl rfl rfl rfl (Nat.le_of_ble_eq_true rfl) rfl rfl rfl ?_
        refine AJ.g sK_sums_worthOf 86 4 (True) 164 [some (.ref 0), some (.ref 3), none, some (.int r10), some (.int l4), some (.int l5), some (.int l6), some (.int l7), some (.long r13), none] [.long r13, .long (Int64.ofInt 1000000), .long (Int64.ofInt (-1000000))] (h_sums_worthOf stack_ values_ p1_codeLength_ p1_size_ p1_take_ p1_fee_ p1_to_ p1_from_ p1_code_) rfl trivial ?_
        refine k_b1 hr (fun r14 e17 hr => ?_)
        refine AJ.eS mk_math_min_JJ (SK.at sK_sums_worthOf 90 rfl) lk_6_44 (c_math_min_JJ  e17) [] [] [] [.long (Int64.ofInt (-1000000))] 167 [.long r14, .long (Int64.ofInt (-1000000))] (h_sums_worthOf stack_ values_ p1_codeLength_ p1_size_ p1_take_ p1_fee_ p1_to_ p1_from_ p1_code_) rfl rfl (by decide +kernel) rfl rfl rfl rfl rfl (Nat.le_of_ble_eq_true rfl) rfl rfl rfl ?_
        refine k_b1 hr (fun r15 e16 hr => ?_)
        refine AJ.eS mk_math_max_JJ (SK.at sK_sums_worthOf 91 rfl) lk_6_48 (c_math_max_JJ  e16) [] [] [] [] 170 [.long r15] (h_sums_worthOf stack_ values_ p1_codeLength_ p1_size_ p1_take_ p1_fee_ p1_to_ p1_from_ p1_code_) rfl rfl (by decide +kernel) rfl rfl rfl rfl rfl (Nat.le_of_ble_eq_true rfl) rfl rfl rfl ?_
        refine AJ.g sK_sums_worthOf 92 2 (True) 173 [some (.ref 0), some (.ref 3), none, some (.int r10), some (.int l4), some (.int l5), some (.int r15.toInt32), some (.int l7), some (.long r13), none] [] (h_sums_worthOf stack_ values_ p1_codeLength_ p1_size_ p1_take_ p1_fee_ p1_to_ p1_from_ p1_code_) rfl trivial ?_
        refine AJ.fg [true, true, false, true, true, true, true] [some (.ref 0), some (.ref 3), none, some (.int r10), some (.int l4), some (.int l5), some (.int r15.toInt32)] rfl ?_
        exact jt_sums_worthOf_173_16 hr hx
set_option maxRecDepth 100000 in
set_option maxHeartbeats 4000000 in
theorem bt_sums_worthOf_16 {d : Nat} {rr : Option Value} {h0 hF : List va_E} {stack_ : Nat → Int32} {values_ : Nat → Int32} {p1_codeLength_ : Int32} {p1_size_ : Int32} {p1_take_ : Int32} {p1_fee_ : Int32} {p1_to_ : Nat → Int32} {p1_from_ : Nat → Int32} {p1_code_ : Nat → Int32} {l3 : Int32} {l4 : Int32} {l5 : Int32} {x : (Int32 × Int32 × (Nat → Int32)) ⊕ (Nat → Int32)} (hr : fb_sums_worthOf_16 values_ p1_codeLength_ p1_code_ l4 l3 l5 stack_ = some x) (hx : Sum.elim (fun s : (Int32 × Int32 × (Nat → Int32)) => AJ (M_sums_worthOf, d + 2, rr, h0, hF) 16 [some (.ref 0), some (.ref 3), none, some (.int s.1), some (.int l4), some (.int s.2.1)] [] (h_sums_worthOf s.2.2 values_ p1_codeLength_ p1_size_ p1_take_ p1_fee_ p1_to_ p1_from_ p1_code_)) (fun s : Nat → Int32 => AJ (M_sums_worthOf, d + 2, rr, h0, hF) 199 [some (.ref 0)] [] (h_sums_worthOf s values_ p1_codeLength_ p1_size_ p1_take_ p1_fee_ p1_to_ p1_from_ p1_code_)) x) : AJ (M_sums_worthOf, d + 2, rr, h0, hF) 16 [some (.ref 0), some (.ref 3), none, some (.int l3), some (.int l4), some (.int l5)] [] (h_sums_worthOf stack_ values_ p1_codeLength_ p1_size_ p1_take_ p1_fee_ p1_to_ p1_from_ p1_code_) := by
  unfold fb_sums_worthOf_16 at hr
  refine AJ.g sK_sums_worthOf 10 2 (True) 20 [some (.ref 0), some (.ref 3), none, some (.int l3), some (.int l4), some (.int l5)] [.int l4, .int l5] (h_sums_worthOf stack_ values_ p1_codeLength_ p1_size_ p1_take_ p1_fee_ p1_to_ p1_from_ p1_code_) rfl trivial ?_
  refine AJ.iF hr (SK.at sK_sums_worthOf 12 rfl) 199 23 rfl rfl rfl (fun hr => ?_) (fun hr => ?_)
  · refine AJ.g sK_sums_worthOf 13 2 (True) 26 [some (.ref 0), some (.ref 3), none, some (.int l3), some (.int l4), some (.int l5)] [.int l5, .ref 3] (h_sums_worthOf stack_ values_ p1_codeLength_ p1_size_ p1_take_ p1_fee_ p1_to_ p1_from_ p1_code_) rfl trivial ?_
    refine k_b1 hr (fun r3 e22 hr => ?_)
    refine AJ.eV mk_law_codeAt (SK.at sK_sums_worthOf 15 rfl) lk_6_27 (c_law_codeAt (codeLength_ := p1_codeLength_) (size_ := p1_size_) (take_ := p1_take_) (fee_ := p1_fee_) (code_ := p1_code_) e22) [3, 6] [7, 5, 4] [] [] 29 [.int r3] (h_sums_worthOf stack_ values_ p1_codeLength_ p1_size_ p1_take_ p1_fee_ p1_to_ p1_from_ p1_code_) rfl rfl rfl rfl rfl (by decide +kernel) rfl rfl rfl rfl rfl (Nat.le_of_ble_eq_true rfl) rfl rfl rfl ?_
    refine AJ.g sK_sums_worthOf 16 7 (True) 43 [some (.ref 0), some (.ref 3), none, some (.int l3), some (.int l4), some (.int l5), some (.int r3), some (.int (r3 - 20000))] [.int 28, .int (r3 - 20000)] (h_sums_worthOf stack_ values_ p1_codeLength_ p1_size_ p1_take_ p1_fee_ p1_to_ p1_from_ p1_code_) rfl trivial ?_
    refine AJ.iT hr (SK.at sK_sums_worthOf 23 rfl) 68 46 rfl rfl rfl (fun hr => ?_) (fun hr => ?_)
    · refine AJ.fg [true, true, false, true, true, true, true, true] [some (.ref 0), some (.ref 3), none, some (.int l3), some (.int l4), some (.int l5), some (.int r3), some (.int (r3 - 20000))] rfl ?_
      exact jt_sums_worthOf_68_16 hr hx
    · refine AJ.g sK_sums_worthOf 24 2 (True) 50 [some (.ref 0), some (.ref 3), none, some (.int l3), some (.int l4), some (.int l5), some (.int r3), some (.int (r3 - 20000))] [.int 35, .int (r3 - 20000)] (h_sums_worthOf stack_ values_ p1_codeLength_ p1_size_ p1_take_ p1_fee_ p1_to_ p1_from_ p1_code_) rfl trivial ?_
      refine AJ.iT hr (SK.at sK_sums_worthOf 26 rfl) 68 53 rfl rfl rfl (fun hr => ?_) (fun hr => ?_)
      · refine AJ.fg [true, true, false, true, true, true, true, true] [some (.ref 0), some (.ref 3), none, some (.int l3), some (.int l4), some (.int l5), some (.int r3), some (.int (r3 - 20000))] rfl ?_
        exact jt_sums_worthOf_68_16 hr hx
      · refine k_grd hr (fun g20 hr => ?_)
        refine AJ.g sK_sums_worthOf 27 7 (inb ((r3 - 20000) - 28) 8 ∧ True) 65 [some (.ref 0), some (.ref 3), none, some (.int l3), some (.int l4), some (.int l5), some (.int (values_ (ix ((r3 - 20000) - 28)))), some (.int (r3 - 20000))] [] (h_sums_worthOf stack_ values_ p1_codeLength_ p1_size_ p1_take_ p1_fee_ p1_to_ p1_from_ p1_code_) rfl ⟨g20, trivial⟩ ?_
        replace hr := k_bnd hr
        generalize (values_ (ix ((r3 - 20000) - 28)) : Int32) = t21 at hr ⊢
        refine AJ.g sK_sums_worthOf 34 1 (True) 173 [some (.ref 0), some (.ref 3), none, some (.int l3), some (.int l4), some (.int l5), some (.int t21), some (.int (r3 - 20000))] [] (h_sums_worthOf stack_ values_ p1_codeLength_ p1_size_ p1_take_ p1_fee_ p1_to_ p1_from_ p1_code_) rfl trivial ?_
        refine AJ.fg [true, true, false, true, true, true, true] [some (.ref 0), some (.ref 3), none, some (.int l3), some (.int l4), some (.int l5), some (.int t21)] rfl ?_
        exact jt_sums_worthOf_173_16 hr hx
  · cases hr
    refine AJ.fg [true] [some (.ref 0)] rfl ?_
    exact hx
set_option maxRecDepth 100000 in
set_option maxHeartbeats 4000000 in
theorem c_sums_worthOf {d : Nat} {stack_ : Nat → Int32} {values_ : Nat → Int32} {p1_codeLength_ : Int32} {p1_size_ : Int32} {p1_take_ : Int32} {p1_fee_ : Int32} {p1_to_ : Nat → Int32} {p1_from_ : Nat → Int32} {p1_code_ : Nat → Int32} {l2 : Int32} {r0 : Int32} {stack_Z : Nat → Int32} (hr : f_sums_worthOf stack_ values_ p1_codeLength_ p1_size_ p1_to_ p1_from_ p1_code_ l2 = some (r0, stack_Z)) : Ctr (d + 2) M_sums_worthOf [.ref 0, .ref 3, .int l2] (h_sums_worthOf stack_ values_ p1_codeLength_ p1_size_ p1_take_ p1_fee_ p1_to_ p1_from_ p1_code_) (some (.int r0)) (h_sums_worthOf stack_Z values_ p1_codeLength_ p1_size_ p1_take_ p1_fee_ p1_to_ p1_from_ p1_code_) := by
  refine Ctr.start pn_sums [some (.ref 0), some (.ref 3), some (.int l2)] (Nat.le_of_ble_eq_true rfl) rfl ?_
  unfold f_sums_worthOf at hr
  refine AJ.g sK_sums_worthOf 0 4 (True) 4 [some (.ref 0), some (.ref 3), some (.int l2), some (.int 0)] [.int l2, .ref 3] (h_sums_worthOf stack_ values_ p1_codeLength_ p1_size_ p1_take_ p1_fee_ p1_to_ p1_from_ p1_code_) rfl trivial ?_
  refine k_b1 hr (fun r1 e25 hr => ?_)
  refine AJ.eV mk_law_toOf (SK.at sK_sums_worthOf 4 rfl) lk_6_18 (c_law_toOf (codeLength_ := p1_codeLength_) (size_ := p1_size_) (take_ := p1_take_) (fee_ := p1_fee_) (to_ := p1_to_) e25) [3, 4] [6, 7, 5] [] [] 7 [.int r1] (h_sums_worthOf stack_ values_ p1_codeLength_ p1_size_ p1_take_ p1_fee_ p1_to_ p1_from_ p1_code_) rfl rfl rfl rfl rfl (by decide +kernel) rfl rfl rfl rfl rfl (Nat.le_of_ble_eq_true rfl) rfl rfl rfl ?_
  refine AJ.g sK_sums_worthOf 5 3 (True) 11 [some (.ref 0), some (.ref 3), some (.int l2), some (.int 0), some (.int r1)] [.int l2, .ref 3] (h_sums_worthOf stack_ values_ p1_codeLength_ p1_size_ p1_take_ p1_fee_ p1_to_ p1_from_ p1_code_) rfl trivial ?_
  refine k_b1 hr (fun r2 e24 hr => ?_)
  refine AJ.eV mk_law_fromOf (SK.at sK_sums_worthOf 8 rfl) lk_6_24 (c_law_fromOf (codeLength_ := p1_codeLength_) (size_ := p1_size_) (take_ := p1_take_) (fee_ := p1_fee_) (from_ := p1_from_) e24) [3, 5] [6, 7, 4] [] [] 14 [.int r2] (h_sums_worthOf stack_ values_ p1_codeLength_ p1_size_ p1_take_ p1_fee_ p1_to_ p1_from_ p1_code_) rfl rfl rfl rfl rfl (by decide +kernel) rfl rfl rfl rfl rfl (Nat.le_of_ble_eq_true rfl) rfl rfl rfl ?_
  refine AJ.g sK_sums_worthOf 9 1 (True) 16 [some (.ref 0), some (.ref 3), some (.int l2), some (.int 0), some (.int r1), some (.int r2)] [] (h_sums_worthOf stack_ values_ p1_codeLength_ p1_size_ p1_take_ p1_fee_ p1_to_ p1_from_ p1_code_) rfl trivial ?_
  refine k_b1 hr (fun stack_23 he hr => ?_)
  refine AJ.fg [true, true, false, true, true, true] [some (.ref 0), some (.ref 3), none, some (.int 0), some (.int r1), some (.int r2)] rfl ?_
  refine itr_ok (un3 (fb_sums_worthOf_16 values_ p1_codeLength_ p1_code_ r1)) (fun s : (Int32 × Int32 × (Nat → Int32)) => AJ _ 16 [some (.ref 0), some (.ref 3), none, some (.int s.1), some (.int r1), some (.int s.2.1)] [] (h_sums_worthOf s.2.2 values_ p1_codeLength_ p1_size_ p1_take_ p1_fee_ p1_to_ p1_from_ p1_code_)) (fun s : Nat → Int32 => AJ _ 199 [some (.ref 0)] [] (h_sums_worthOf s values_ p1_codeLength_ p1_size_ p1_take_ p1_fee_ p1_to_ p1_from_ p1_code_)) (fun s x hb hx => bt_sums_worthOf_16 hb hx) KF (0, r2, stack_) stack_23 he (show AJ _ 199 [some (.ref 0)] [] (h_sums_worthOf stack_23 values_ p1_codeLength_ p1_size_ p1_take_ p1_fee_ p1_to_ p1_from_ p1_code_) from ?_)
  refine AJ.g sK_sums_worthOf 107 4 (inb 0 64 ∧ True) 205 [some (.ref 0)] [.int (stack_23 0)] (h_sums_worthOf stack_23 values_ p1_codeLength_ p1_size_ p1_take_ p1_fee_ p1_to_ p1_from_ p1_code_) rfl ⟨by decide, trivial⟩ ?_
  cases hr
  exact AJ.xi (SK.at sK_sums_worthOf 111 rfl) rfl
theorem sK_go_isBarred : SK M_go_isBarred q_go_isBarred := sk_go_isBarred
set_option maxRecDepth 100000 in
set_option maxHeartbeats 4000000 in
theorem bt_go_isBarred_23 {d : Nat} {rr : Option Value} {h0 hF : List va_E} {world_people_ : Int32} {world_gates_ : Int32} {world_hour_ : Int32} {world_texts_ : Int32} {world_ruling_ : Int32} {world_x_ : Int32} {laws_ru : Nat} {sums_values_ : Nat → Int32} {lawsL_codeLength_ : Int32} {lawsL_size_ : Int32} {lawsL_take_ : Int32} {lawsL_fee_ : Int32} {sums_stack_ : Nat → Int32} {lawsL_kinds_ : Nat → Int32} {lawsL_to_ : Nat → Int32} {lawsL_from_ : Nat → Int32} {lawsL_code_ : Nat → Int32} {p1_names_ : Nat → Int32} {p1_sizes_ : Nat → Int32} {l5 : Int32} {x : (Int32 × (Nat → Int32)) ⊕ ((Nat → Int32) ⊕ (Nat → Int32))} (hru : laws_ru = 0 ∨ laws_ru = 1 ∨ laws_ru = 2 ∨ laws_ru = 3) (hr : fb_go_isBarred_23 sums_values_ lawsL_codeLength_ lawsL_size_ lawsL_kinds_ lawsL_to_ lawsL_from_ lawsL_code_ l5 sums_stack_ = some x) (hx : Sum.elim (fun s : (Int32 × (Nat → Int32)) => AJ (M_go_isBarred, d + 3, rr, h0, hF) 23 [some (.ref 0), none, none, none, some (.ref 5), some (.int s.1)] [] (h_go_isBarred world_people_ world_gates_ world_hour_ world_texts_ world_ruling_ world_x_ laws_ru sums_values_ lawsL_codeLength_ lawsL_size_ lawsL_take_ lawsL_fee_ s.2 lawsL_kinds_ lawsL_to_ lawsL_from_ lawsL_code_ p1_names_ p1_sizes_)) (Sum.elim (fun s : Nat → Int32 => AJ (M_go_isBarred, d + 3, rr, h0, hF) 59 [] [] (h_go_isBarred world_people_ world_gates_ world_hour_ world_texts_ world_ruling_ world_x_ laws_ru sums_values_ lawsL_codeLength_ lawsL_size_ lawsL_take_ lawsL_fee_ s lawsL_kinds_ lawsL_to_ lawsL_from_ lawsL_code_ p1_names_ p1_sizes_)) (fun s : Nat → Int32 => AJ (M_go_isBarred, d + 3, rr, h0, hF) 67 [] [] (h_go_isBarred world_people_ world_gates_ world_hour_ world_texts_ world_ruling_ world_x_ laws_ru sums_values_ lawsL_codeLength_ lawsL_size_ lawsL_take_ lawsL_fee_ s lawsL_kinds_ lawsL_to_ lawsL_from_ lawsL_code_ p1_names_ p1_sizes_))) x) : AJ (M_go_isBarred, d + 3, rr, h0, hF) 23 [some (.ref 0), none, none, none, some (.ref 5), some (.int l5)] [] (h_go_isBarred world_people_ world_gates_ world_hour_ world_texts_ world_ruling_ world_x_ laws_ru sums_values_ lawsL_codeLength_ lawsL_size_ lawsL_take_ lawsL_fee_ sums_stack_ lawsL_kinds_ lawsL_to_ lawsL_from_ lawsL_code_ p1_names_ p1_sizes_) := by
  unfold fb_go_isBarred_23 at hr
  refine AJ.g sK_go_isBarred 14 3 (True) 30 [some (.ref 0), none, none, none, some (.ref 5), some (.int l5)] [.int lawsL_size_, .int l5] (h_go_isBarred world_people_ world_gates_ world_hour_ world_texts_ world_ruling_ world_x_ laws_ru sums_values_ lawsL_codeLength_ lawsL_size_ lawsL_take_ lawsL_fee_ sums_stack_ lawsL_kinds_ lawsL_to_ lawsL_from_ lawsL_code_ p1_names_ p1_sizes_) rfl trivial ?_
  refine AJ.iF hr (SK.at sK_go_isBarred 17 rfl) 67 33 rfl rfl rfl (fun hr => ?_) (fun hr => ?_)
  · refine AJ.g sK_go_isBarred 18 2 (True) 37 [some (.ref 0), none, none, none, some (.ref 5), some (.int l5)] [.int l5, .ref 5] (h_go_isBarred world_people_ world_gates_ world_hour_ world_texts_ world_ruling_ world_x_ laws_ru sums_values_ lawsL_codeLength_ lawsL_size_ lawsL_take_ lawsL_fee_ sums_stack_ lawsL_kinds_ lawsL_to_ lawsL_from_ lawsL_code_ p1_names_ p1_sizes_) rfl trivial ?_
    refine k_b1 hr (fun r2 e6 hr => ?_)
    refine AJ.eV mk_law_kindOf (SK.at sK_go_isBarred 20 rfl) lk_1_69 (c_law_kindOf (codeLength_ := lawsL_codeLength_) (size_ := lawsL_size_) (take_ := lawsL_take_) (fee_ := lawsL_fee_) (kinds_ := lawsL_kinds_) e6) [5, 7] [10, 9, 8] [] [] 40 [.int r2] (h_go_isBarred world_people_ world_gates_ world_hour_ world_texts_ world_ruling_ world_x_ laws_ru sums_values_ lawsL_codeLength_ lawsL_size_ lawsL_take_ lawsL_fee_ sums_stack_ lawsL_kinds_ lawsL_to_ lawsL_from_ lawsL_code_ p1_names_ p1_sizes_) rfl rfl rfl rfl rfl (by decide +kernel) rfl rfl rfl rfl rfl (Nat.le_of_ble_eq_true rfl) rfl rfl rfl ?_
    refine AJ.g sK_go_isBarred 21 1 (True) 42 [some (.ref 0), none, none, none, some (.ref 5), some (.int l5)] [.int 22, .int r2] (h_go_isBarred world_people_ world_gates_ world_hour_ world_texts_ world_ruling_ world_x_ laws_ru sums_values_ lawsL_codeLength_ lawsL_size_ lawsL_take_ lawsL_fee_ sums_stack_ lawsL_kinds_ lawsL_to_ lawsL_from_ lawsL_code_ p1_names_ p1_sizes_) rfl trivial ?_
    refine AJ.iF hr (SK.at sK_go_isBarred 22 rfl) 61 45 rfl rfl rfl (fun hr => ?_) (fun hr => ?_)
    · refine AJ.g sK_go_isBarred 23 4 (True) 53 [some (.ref 0), none, none, none, some (.ref 5), some (.int l5)] [.int l5, .ref 5, .ref 3] (h_go_isBarred world_people_ world_gates_ world_hour_ world_texts_ world_ruling_ world_x_ laws_ru sums_values_ lawsL_codeLength_ lawsL_size_ lawsL_take_ lawsL_fee_ sums_stack_ lawsL_kinds_ lawsL_to_ lawsL_from_ lawsL_code_ p1_names_ p1_sizes_) rfl trivial ?_
      refine k_b2 hr (fun r3 sums_stack_4 e5 hr => ?_)
      refine AJ.eV mk_sums_worthOf (SK.at sK_go_isBarred 27 rfl) lk_1_72 (c_sums_worthOf (stack_ := sums_stack_) (values_ := sums_values_) (p1_codeLength_ := lawsL_codeLength_) (p1_size_ := lawsL_size_) (p1_take_ := lawsL_take_) (p1_fee_ := lawsL_fee_) (p1_to_ := lawsL_to_) (p1_from_ := lawsL_from_) (p1_code_ := lawsL_code_) e5) [3, 6, 4, 5, 8, 9, 10] [7] [1] [] 56 [.int r3] (h_go_isBarred world_people_ world_gates_ world_hour_ world_texts_ world_ruling_ world_x_ laws_ru sums_values_ lawsL_codeLength_ lawsL_size_ lawsL_take_ lawsL_fee_ sums_stack_4 lawsL_kinds_ lawsL_to_ lawsL_from_ lawsL_code_ p1_names_ p1_sizes_) rfl rfl rfl rfl rfl (by decide +kernel) rfl rfl rfl rfl rfl (Nat.le_of_ble_eq_true rfl) rfl rfl rfl ?_
      refine AJ.iT hr (SK.at sK_go_isBarred 28 rfl) 61 59 rfl rfl rfl (fun hr => ?_) (fun hr => ?_)
      · refine AJ.g sK_go_isBarred 31 2 (True) 23 [some (.ref 0), none, none, none, some (.ref 5), some (.int (l5 + 1))] [] (h_go_isBarred world_people_ world_gates_ world_hour_ world_texts_ world_ruling_ world_x_ laws_ru sums_values_ lawsL_codeLength_ lawsL_size_ lawsL_take_ lawsL_fee_ sums_stack_4 lawsL_kinds_ lawsL_to_ lawsL_from_ lawsL_code_ p1_names_ p1_sizes_) rfl trivial ?_
        cases hr
        refine AJ.fg [true, false, false, false, true, true] [some (.ref 0), none, none, none, some (.ref 5), some (.int (l5 + 1))] rfl ?_
        exact hx
      · cases hr
        refine AJ.fg [] [] rfl ?_
        exact hx
    · refine AJ.g sK_go_isBarred 31 2 (True) 23 [some (.ref 0), none, none, none, some (.ref 5), some (.int (l5 + 1))] [] (h_go_isBarred world_people_ world_gates_ world_hour_ world_texts_ world_ruling_ world_x_ laws_ru sums_values_ lawsL_codeLength_ lawsL_size_ lawsL_take_ lawsL_fee_ sums_stack_ lawsL_kinds_ lawsL_to_ lawsL_from_ lawsL_code_ p1_names_ p1_sizes_) rfl trivial ?_
      cases hr
      refine AJ.fg [true, false, false, false, true, true] [some (.ref 0), none, none, none, some (.ref 5), some (.int (l5 + 1))] rfl ?_
      exact hx
  · cases hr
    refine AJ.fg [] [] rfl ?_
    exact hx
set_option maxRecDepth 100000 in
set_option maxHeartbeats 4000000 in
theorem c_go_isBarred {d : Nat} {world_people_ : Int32} {world_gates_ : Int32} {world_hour_ : Int32} {world_texts_ : Int32} {world_ruling_ : Int32} {world_x_ : Int32} {laws_ru : Nat} {sums_values_ : Nat → Int32} {lawsL_codeLength_ : Int32} {lawsL_size_ : Int32} {lawsL_take_ : Int32} {lawsL_fee_ : Int32} {sums_stack_ : Nat → Int32} {lawsL_kinds_ : Nat → Int32} {lawsL_to_ : Nat → Int32} {lawsL_from_ : Nat → Int32} {lawsL_code_ : Nat → Int32} {p1_names_ : Nat → Int32} {p1_sizes_ : Nat → Int32} {l2 : Int32} {l3 : Int32} {r0 : Int32} {sums_values_Z : Nat → Int32} {sums_stack_Z : Nat → Int32} (hru : laws_ru = 0 ∨ laws_ru = 1 ∨ laws_ru = 2 ∨ laws_ru = 3) (hr : f_go_isBarred world_hour_ world_ruling_ laws_ru sums_values_ lawsL_codeLength_ lawsL_size_ sums_stack_ lawsL_kinds_ lawsL_to_ lawsL_from_ lawsL_code_ p1_names_ p1_sizes_ l2 l3 = some (r0, sums_values_Z, sums_stack_Z)) : Ctr (d + 3) M_go_isBarred [.ref 0, .ref 11, .int l2, .int l3] (h_go_isBarred world_people_ world_gates_ world_hour_ world_texts_ world_ruling_ world_x_ laws_ru sums_values_ lawsL_codeLength_ lawsL_size_ lawsL_take_ lawsL_fee_ sums_stack_ lawsL_kinds_ lawsL_to_ lawsL_from_ lawsL_code_ p1_names_ p1_sizes_) (some (.int r0)) (h_go_isBarred world_people_ world_gates_ world_hour_ world_texts_ world_ruling_ world_x_ laws_ru sums_values_Z lawsL_codeLength_ lawsL_size_ lawsL_take_ lawsL_fee_ sums_stack_Z lawsL_kinds_ lawsL_to_ lawsL_from_ lawsL_code_ p1_names_ p1_sizes_) := by
  refine Ctr.start pn_go [some (.ref 0), some (.ref 11), some (.int l2), some (.int l3)] (Nat.le_of_ble_eq_true rfl) rfl ?_
  unfold f_go_isBarred at hr
  refine AJ.g sK_go_isBarred 0 1 (True) 1 [some (.ref 0), some (.ref 11), some (.int l2), some (.int l3)] [.ref 0] (h_go_isBarred world_people_ world_gates_ world_hour_ world_texts_ world_ruling_ world_x_ laws_ru sums_values_ lawsL_codeLength_ lawsL_size_ lawsL_take_ lawsL_fee_ sums_stack_ lawsL_kinds_ lawsL_to_ lawsL_from_ lawsL_code_ p1_names_ p1_sizes_) rfl trivial ?_
  refine k_ite hr (fun gn hr => ?_) (fun gp hr => ?_)
  · refine AJ.eV mk_go_ruling (SK.at sK_go_isBarred 1 rfl) lk_1_57 (c_go_ruling_n (world_people_ := world_people_) (world_gates_ := world_gates_) (world_hour_ := world_hour_) (world_texts_ := world_texts_) (world_ruling_ := world_ruling_) (world_x_ := world_x_) (laws_ru := laws_ru) (Or.inl gn)) [0, 1, 2] [3, 14, 15, 16, 17, 18, 19, 20, 21, 22, 5, 23, 24, 25, 26] [] [] 4 [.null] (h_go_isBarred world_people_ world_gates_ world_hour_ world_texts_ world_ruling_ world_x_ laws_ru sums_values_ lawsL_codeLength_ lawsL_size_ lawsL_take_ lawsL_fee_ sums_stack_ lawsL_kinds_ lawsL_to_ lawsL_from_ lawsL_code_ p1_names_ p1_sizes_) rfl rfl rfl rfl rfl (by decide +kernel) (by rcases hru with rfl | rfl | rfl | rfl <;> rfl) rfl rfl rfl rfl (Nat.le_of_ble_eq_true rfl) rfl rfl rfl ?_
    refine AJ.astN (SK.at sK_go_isBarred 2 rfl) (Nat.le_of_ble_eq_true rfl) (ls' := [some (.ref 0), some (.ref 11), some (.int l2), some (.int l3), some (.null)]) rfl ?_
    refine AJ.aldN (SK.at sK_go_isBarred 3 rfl) rfl ?_
    refine AJ.nnN (nxt := 11) (SK.at sK_go_isBarred 4 rfl) rfl ?_
    refine AJ.g sK_go_isBarred 5 1 (True) 12 [some (.ref 0), some (.ref 11), some (.int l2), some (.int l3), some (.null)] [.int 0] (h_go_isBarred world_people_ world_gates_ world_hour_ world_texts_ world_ruling_ world_x_ laws_ru sums_values_ lawsL_codeLength_ lawsL_size_ lawsL_take_ lawsL_fee_ sums_stack_ lawsL_kinds_ lawsL_to_ lawsL_from_ lawsL_code_ p1_names_ p1_sizes_) rfl trivial ?_
    cases hr
    exact AJ.xz (by decide) (SK.at sK_go_isBarred 6 rfl) rfl
  · refine k_ite hr (fun gl hr => ?_) (fun gg hr => ?_)
    · refine k_grd hr (fun ge hr => ?_)
      refine AJ.eV mk_go_ruling (SK.at sK_go_isBarred 1 rfl) lk_1_57 (c_go_ruling_s (world_people_ := world_people_) (world_gates_ := world_gates_) (world_hour_ := world_hour_) (world_texts_ := world_texts_) (world_ruling_ := world_ruling_) (world_x_ := world_x_) (laws_ru := laws_ru) hru gp gl ge) [0, 1, 2] [3, 14, 15, 16, 17, 18, 19, 20, 21, 22, 5, 23, 24, 25, 26] [] [] 4 [.ref 5] (h_go_isBarred world_people_ world_gates_ world_hour_ world_texts_ world_ruling_ world_x_ laws_ru sums_values_ lawsL_codeLength_ lawsL_size_ lawsL_take_ lawsL_fee_ sums_stack_ lawsL_kinds_ lawsL_to_ lawsL_from_ lawsL_code_ p1_names_ p1_sizes_) rfl rfl rfl rfl rfl (by decide +kernel) (by rcases hru with rfl | rfl | rfl | rfl <;> rfl) rfl rfl rfl rfl (Nat.le_of_ble_eq_true rfl) rfl rfl rfl ?_
      refine AJ.g sK_go_isBarred 2 2 (True) 8 [some (.ref 0), some (.ref 11), some (.int l2), some (.int l3), some (.ref 5)] [.ref 5] (h_go_isBarred world_people_ world_gates_ world_hour_ world_texts_ world_ruling_ world_x_ laws_ru sums_values_ lawsL_codeLength_ lawsL_size_ lawsL_take_ lawsL_fee_ sums_stack_ lawsL_kinds_ lawsL_to_ lawsL_from_ lawsL_code_ p1_names_ p1_sizes_) rfl trivial ?_
      refine AJ.nnR (tgt := 13) (SK.at sK_go_isBarred 4 rfl) rfl ?_
      refine AJ.g sK_go_isBarred 7 4 (True) 17 [some (.ref 0), some (.ref 11), some (.int l2), some (.int l3), some (.ref 5)] [.int l3, .int l2, .ref 11, .ref 0] (h_go_isBarred world_people_ world_gates_ world_hour_ world_texts_ world_ruling_ world_x_ laws_ru sums_values_ lawsL_codeLength_ lawsL_size_ lawsL_take_ lawsL_fee_ sums_stack_ lawsL_kinds_ lawsL_to_ lawsL_from_ lawsL_code_ p1_names_ p1_sizes_) rfl trivial ?_
      refine k_b1 hr (fun sums_values_1 e9 hr => ?_)
      refine AJ.eV mk_go_tellGoing (SK.at sK_go_isBarred 11 rfl) lk_1_60 (c_go_tellGoing (world_people_ := world_people_) (world_gates_ := world_gates_) (world_hour_ := world_hour_) (world_texts_ := world_texts_) (world_ruling_ := world_ruling_) (world_x_ := world_x_) (sums_values_ := sums_values_) (p1_names_ := p1_names_) (p1_sizes_ := p1_sizes_) e9) [0, 3, 1, 4, 11, 12, 13] [2, 14, 6, 15, 16, 17, 18, 19, 20, 21, 22, 27] [3] [] 20 [] (h_go_isBarred world_people_ world_gates_ world_hour_ world_texts_ world_ruling_ world_x_ laws_ru sums_values_1 lawsL_codeLength_ lawsL_size_ lawsL_take_ lawsL_fee_ sums_stack_ lawsL_kinds_ lawsL_to_ lawsL_from_ lawsL_code_ p1_names_ p1_sizes_) rfl rfl rfl rfl rfl (by decide +kernel) rfl rfl rfl rfl rfl (Nat.le_of_ble_eq_true rfl) rfl rfl rfl ?_
      refine AJ.g sK_go_isBarred 12 2 (True) 23 [some (.ref 0), some (.ref 11), some (.int l2), some (.int l3), some (.ref 5), some (.int 0)] [] (h_go_isBarred world_people_ world_gates_ world_hour_ world_texts_ world_ruling_ world_x_ laws_ru sums_values_1 lawsL_codeLength_ lawsL_size_ lawsL_take_ lawsL_fee_ sums_stack_ lawsL_kinds_ lawsL_to_ lawsL_from_ lawsL_code_ p1_names_ p1_sizes_) rfl trivial ?_
      refine k_bs hr (fun z he hr => ?_) (fun z he hr => ?_)
      · obtain ⟨sums_stack_7, rfl⟩ : ∃ w, w = z := ⟨_, rfl⟩
        refine AJ.fg [true, false, false, false, true, true] [some (.ref 0), none, none, none, some (.ref 5), some (.int 0)] rfl ?_
        refine itr_ok (un2 (fb_go_isBarred_23 sums_values_1 lawsL_codeLength_ lawsL_size_ lawsL_kinds_ lawsL_to_ lawsL_from_ lawsL_code_)) (fun s : (Int32 × (Nat → Int32)) => AJ _ 23 [some (.ref 0), none, none, none, some (.ref 5), some (.int s.1)] [] (h_go_isBarred world_people_ world_gates_ world_hour_ world_texts_ world_ruling_ world_x_ laws_ru sums_values_1 lawsL_codeLength_ lawsL_size_ lawsL_take_ lawsL_fee_ s.2 lawsL_kinds_ lawsL_to_ lawsL_from_ lawsL_code_ p1_names_ p1_sizes_)) (Sum.elim (fun s : Nat → Int32 => AJ _ 59 [] [] (h_go_isBarred world_people_ world_gates_ world_hour_ world_texts_ world_ruling_ world_x_ laws_ru sums_values_1 lawsL_codeLength_ lawsL_size_ lawsL_take_ lawsL_fee_ s lawsL_kinds_ lawsL_to_ lawsL_from_ lawsL_code_ p1_names_ p1_sizes_)) (fun s : Nat → Int32 => AJ _ 67 [] [] (h_go_isBarred world_people_ world_gates_ world_hour_ world_texts_ world_ruling_ world_x_ laws_ru sums_values_1 lawsL_codeLength_ lawsL_size_ lawsL_take_ lawsL_fee_ s lawsL_kinds_ lawsL_to_ lawsL_from_ lawsL_code_ p1_names_ p1_sizes_))) (fun s x hb hx => bt_go_isBarred_23 hru hb hx) KF (0, sums_stack_) (.inl sums_stack_7) he (show AJ _ 59 [] [] (h_go_isBarred world_people_ world_gates_ world_hour_ world_texts_ world_ruling_ world_x_ laws_ru sums_values_1 lawsL_codeLength_ lawsL_size_ lawsL_take_ lawsL_fee_ sums_stack_7 lawsL_kinds_ lawsL_to_ lawsL_from_ lawsL_code_ p1_names_ p1_sizes_) from ?_)
        refine AJ.g sK_go_isBarred 29 1 (True) 60 [] [.int 1] (h_go_isBarred world_people_ world_gates_ world_hour_ world_texts_ world_ruling_ world_x_ laws_ru sums_values_1 lawsL_codeLength_ lawsL_size_ lawsL_take_ lawsL_fee_ sums_stack_7 lawsL_kinds_ lawsL_to_ lawsL_from_ lawsL_code_ p1_names_ p1_sizes_) rfl trivial ?_
        cases hr
        exact AJ.xz (by decide) (SK.at sK_go_isBarred 30 rfl) rfl
      · obtain ⟨sums_stack_8, rfl⟩ : ∃ w, w = z := ⟨_, rfl⟩
        refine AJ.fg [true, false, false, false, true, true] [some (.ref 0), none, none, none, some (.ref 5), some (.int 0)] rfl ?_
        refine itr_ok (un2 (fb_go_isBarred_23 sums_values_1 lawsL_codeLength_ lawsL_size_ lawsL_kinds_ lawsL_to_ lawsL_from_ lawsL_code_)) (fun s : (Int32 × (Nat → Int32)) => AJ _ 23 [some (.ref 0), none, none, none, some (.ref 5), some (.int s.1)] [] (h_go_isBarred world_people_ world_gates_ world_hour_ world_texts_ world_ruling_ world_x_ laws_ru sums_values_1 lawsL_codeLength_ lawsL_size_ lawsL_take_ lawsL_fee_ s.2 lawsL_kinds_ lawsL_to_ lawsL_from_ lawsL_code_ p1_names_ p1_sizes_)) (Sum.elim (fun s : Nat → Int32 => AJ _ 59 [] [] (h_go_isBarred world_people_ world_gates_ world_hour_ world_texts_ world_ruling_ world_x_ laws_ru sums_values_1 lawsL_codeLength_ lawsL_size_ lawsL_take_ lawsL_fee_ s lawsL_kinds_ lawsL_to_ lawsL_from_ lawsL_code_ p1_names_ p1_sizes_)) (fun s : Nat → Int32 => AJ _ 67 [] [] (h_go_isBarred world_people_ world_gates_ world_hour_ world_texts_ world_ruling_ world_x_ laws_ru sums_values_1 lawsL_codeLength_ lawsL_size_ lawsL_take_ lawsL_fee_ s lawsL_kinds_ lawsL_to_ lawsL_from_ lawsL_code_ p1_names_ p1_sizes_))) (fun s x hb hx => bt_go_isBarred_23 hru hb hx) KF (0, sums_stack_) (.inr (sums_stack_8)) he (show AJ _ 67 [] [] (h_go_isBarred world_people_ world_gates_ world_hour_ world_texts_ world_ruling_ world_x_ laws_ru sums_values_1 lawsL_codeLength_ lawsL_size_ lawsL_take_ lawsL_fee_ sums_stack_8 lawsL_kinds_ lawsL_to_ lawsL_from_ lawsL_code_ p1_names_ p1_sizes_) from ?_)
        refine AJ.g sK_go_isBarred 33 1 (True) 68 [] [.int 0] (h_go_isBarred world_people_ world_gates_ world_hour_ world_texts_ world_ruling_ world_x_ laws_ru sums_values_1 lawsL_codeLength_ lawsL_size_ lawsL_take_ lawsL_fee_ sums_stack_8 lawsL_kinds_ lawsL_to_ lawsL_from_ lawsL_code_ p1_names_ p1_sizes_) rfl trivial ?_
        cases hr
        exact AJ.xz (by decide) (SK.at sK_go_isBarred 34 rfl) rfl
    · refine AJ.eV mk_go_ruling (SK.at sK_go_isBarred 1 rfl) lk_1_57 (c_go_ruling_n (world_people_ := world_people_) (world_gates_ := world_gates_) (world_hour_ := world_hour_) (world_texts_ := world_texts_) (world_ruling_ := world_ruling_) (world_x_ := world_x_) (laws_ru := laws_ru) (Or.inr gg)) [0, 1, 2] [3, 14, 15, 16, 17, 18, 19, 20, 21, 22, 5, 23, 24, 25, 26] [] [] 4 [.null] (h_go_isBarred world_people_ world_gates_ world_hour_ world_texts_ world_ruling_ world_x_ laws_ru sums_values_ lawsL_codeLength_ lawsL_size_ lawsL_take_ lawsL_fee_ sums_stack_ lawsL_kinds_ lawsL_to_ lawsL_from_ lawsL_code_ p1_names_ p1_sizes_) rfl rfl rfl rfl rfl (by decide +kernel) (by rcases hru with rfl | rfl | rfl | rfl <;> rfl) rfl rfl rfl rfl (Nat.le_of_ble_eq_true rfl) rfl rfl rfl ?_
      refine AJ.astN (SK.at sK_go_isBarred 2 rfl) (Nat.le_of_ble_eq_true rfl) (ls' := [some (.ref 0), some (.ref 11), some (.int l2), some (.int l3), some (.null)]) rfl ?_
      refine AJ.aldN (SK.at sK_go_isBarred 3 rfl) rfl ?_
      refine AJ.nnN (nxt := 11) (SK.at sK_go_isBarred 4 rfl) rfl ?_
      refine AJ.g sK_go_isBarred 5 1 (True) 12 [some (.ref 0), some (.ref 11), some (.int l2), some (.int l3), some (.null)] [.int 0] (h_go_isBarred world_people_ world_gates_ world_hour_ world_texts_ world_ruling_ world_x_ laws_ru sums_values_ lawsL_codeLength_ lawsL_size_ lawsL_take_ lawsL_fee_ sums_stack_ lawsL_kinds_ lawsL_to_ lawsL_from_ lawsL_code_ p1_names_ p1_sizes_) rfl trivial ?_
      cases hr
      exact AJ.xz (by decide) (SK.at sK_go_isBarred 6 rfl) rfl
