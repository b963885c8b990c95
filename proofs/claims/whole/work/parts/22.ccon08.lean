theorem sK_x_isNameOrNone : SK M_x_isNameOrNone q_x_isNameOrNone := sk_x_isNameOrNone
set_option maxRecDepth 100000 in
set_option maxHeartbeats 4000000 in
theorem c_x_isNameOrNone {d : Nat}  {l0 : Int32} {r0 : Int32} (hr : f_x_isNameOrNone l0 = some r0) : Ctr (d + 2) M_x_isNameOrNone [.int l0] [] (some (.int r0)) [] := by
  refine Ctr.start pn_x [some (.int l0)] (Nat.le_of_ble_eq_true rfl) rfl ?_
  unfold f_x_isNameOrNone at hr
  refine AJ.g sK_x_isNameOrNone 0 2 (True) 2 [some (.int l0)] [.int (-1), .int l0] [] rfl trivial ?_
  refine AJ.iT hr (SK.at sK_x_isNameOrNone 2 rfl) 12 5 rfl rfl rfl (fun hr => ?_) (fun hr => ?_)
  · refine AJ.g sK_x_isNameOrNone 6 2 (True) 17 [some (.int l0)] [.int 1] [] rfl trivial ?_
    cases hr
    exact AJ.xz (by decide) (SK.at sK_x_isNameOrNone 9 rfl) rfl
  · refine AJ.g sK_x_isNameOrNone 3 1 (True) 6 [some (.int l0)] [.int l0] [] rfl trivial ?_
    refine k_b1 hr (fun r1 e2 hr => ?_)
    refine AJ.dS mk_x_isName (SK.at sK_x_isNameOrNone 4 rfl) lk_11_165 (c_x_isName  e2) [] [] [] 9 [.int r1] [] rfl rfl (by decide +kernel) rfl rfl rfl rfl (Nat.le_of_ble_eq_true rfl) rfl rfl rfl ?_
    refine AJ.iT hr (SK.at sK_x_isNameOrNone 5 rfl) 16 12 rfl rfl rfl (fun hr => ?_) (fun hr => ?_)
    · refine AJ.g sK_x_isNameOrNone 8 1 (True) 17 [some (.int l0)] [.int 0] [] rfl trivial ?_
      cases hr
      exact AJ.xz (by decide) (SK.at sK_x_isNameOrNone 9 rfl) rfl
    · refine AJ.g sK_x_isNameOrNone 6 2 (True) 17 [some (.int l0)] [.int 1] [] rfl trivial ?_
      cases hr
      exact AJ.xz (by decide) (SK.at sK_x_isNameOrNone 9 rfl) rfl
theorem sK_odds_isOfLot : SK M_odds_isOfLot q_odds_isOfLot := sk_odds_isOfLot
set_option maxRecDepth 100000 in
set_option maxHeartbeats 4000000 in
theorem c_odds_isOfLot {d : Nat} {who_ : Int32} {name_ : Int32} {upper_ : Int64} {lower_ : Int64} {world_people_ : Int32} {world_gates_ : Int32} {world_hour_ : Int32} {world_texts_ : Int32} {world_ruling_ : Int32} {world_x_ : Int32} {world_lot_ : Nat → Int32} {l1 : Int32} {r0 : Int32} (hr : f_odds_isOfLot world_gates_ world_lot_ l1 = some r0) : Ctr (d + 2) M_odds_isOfLot [.ref 0, .int l1] (h_odds_isOfLot who_ name_ upper_ lower_ world_people_ world_gates_ world_hour_ world_texts_ world_ruling_ world_x_ world_lot_) (some (.int r0)) (h_odds_isOfLot who_ name_ upper_ lower_ world_people_ world_gates_ world_hour_ world_texts_ world_ruling_ world_x_ world_lot_) := by
  refine Ctr.start pn_odds [some (.ref 0), some (.int l1)] (Nat.le_of_ble_eq_true rfl) rfl ?_
  unfold f_odds_isOfLot at hr
  refine AJ.g sK_odds_isOfLot 0 3 (True) 5 [some (.ref 0), some (.int l1)] [.int l1, .ref 1] (h_odds_isOfLot who_ name_ upper_ lower_ world_people_ world_gates_ world_hour_ world_texts_ world_ruling_ world_x_ world_lot_) rfl trivial ?_
  refine k_b1 hr (fun r1 e3 hr => ?_)
  refine AJ.dV mk_world_hasGate (SK.at sK_odds_isOfLot 3 rfl) lk_3_59 (c_world_hasGate (people_ := world_people_) (gates_ := world_gates_) (hour_ := world_hour_) (texts_ := world_texts_) (ruling_ := world_ruling_) (x_ := world_x_) e3) [1] [5, 2, 6, 7, 8, 9, 10, 11] [] 8 [.int r1] (h_odds_isOfLot who_ name_ upper_ lower_ world_people_ world_gates_ world_hour_ world_texts_ world_ruling_ world_x_ world_lot_) rfl rfl rfl rfl rfl (by decide +kernel) rfl rfl rfl rfl (Nat.le_of_ble_eq_true rfl) rfl rfl rfl ?_
  refine AJ.iT hr (SK.at sK_odds_isOfLot 4 rfl) 27 11 rfl rfl rfl (fun hr => ?_) (fun hr => ?_)
  · refine AJ.g sK_odds_isOfLot 13 1 (True) 28 [some (.ref 0), some (.int l1)] [.int 0] (h_odds_isOfLot who_ name_ upper_ lower_ world_people_ world_gates_ world_hour_ world_texts_ world_ruling_ world_x_ world_lot_) rfl trivial ?_
    cases hr
    exact AJ.xz (by decide) (SK.at sK_odds_isOfLot 14 rfl) rfl
  · refine k_grd hr (fun g2 hr => ?_)
    refine AJ.g sK_odds_isOfLot 5 5 (inb l1 3 ∧ True) 20 [some (.ref 0), some (.int l1)] [.int (world_lot_ (ix l1))] (h_odds_isOfLot who_ name_ upper_ lower_ world_people_ world_gates_ world_hour_ world_texts_ world_ruling_ world_x_ world_lot_) rfl ⟨g2, trivial⟩ ?_
    refine AJ.iT hr (SK.at sK_odds_isOfLot 10 rfl) 27 23 rfl rfl rfl (fun hr => ?_) (fun hr => ?_)
    · refine AJ.g sK_odds_isOfLot 13 1 (True) 28 [some (.ref 0), some (.int l1)] [.int 0] (h_odds_isOfLot who_ name_ upper_ lower_ world_people_ world_gates_ world_hour_ world_texts_ world_ruling_ world_x_ world_lot_) rfl trivial ?_
      cases hr
      exact AJ.xz (by decide) (SK.at sK_odds_isOfLot 14 rfl) rfl
    · refine AJ.g sK_odds_isOfLot 11 2 (True) 28 [some (.ref 0), some (.int l1)] [.int 1] (h_odds_isOfLot who_ name_ upper_ lower_ world_people_ world_gates_ world_hour_ world_texts_ world_ruling_ world_x_ world_lot_) rfl trivial ?_
      cases hr
      exact AJ.xz (by decide) (SK.at sK_odds_isOfLot 14 rfl) rfl
theorem sK_odds_lotsOfRow : SK M_odds_lotsOfRow q_odds_lotsOfRow := sk_odds_lotsOfRow
set_option maxRecDepth 100000 in
set_option maxHeartbeats 4000000 in
theorem bt_odds_lotsOfRow_4 {d : Nat} {rr : Option Value} {h0 hF : List va_E} {who_ : Int32} {name_ : Int32} {upper_ : Int64} {lower_ : Int64} {world_people_ : Int32} {world_gates_ : Int32} {world_hour_ : Int32} {world_texts_ : Int32} {world_ruling_ : Int32} {world_x_ : Int32} {world_row_size_ : Int32} {world_lot_ : Nat → Int32} {world_row_cells_ : Nat → Int32} {l1 : Int32} {l2 : Int32} {x : (Int32 × Int32) ⊕ Int32} (hr : fb_odds_lotsOfRow_4 world_gates_ world_row_size_ world_lot_ world_row_cells_ l1 l2 = some x) (hx : Sum.elim (fun s : (Int32 × Int32) => AJ (M_odds_lotsOfRow, d + 3, rr, h0, hF) 4 [some (.ref 0), some (.int s.1), some (.int s.2)] [] (h_odds_lotsOfRow who_ name_ upper_ lower_ world_people_ world_gates_ world_hour_ world_texts_ world_ruling_ world_x_ world_row_size_ world_lot_ world_row_cells_)) (fun s : Int32 => AJ (M_odds_lotsOfRow, d + 3, rr, h0, hF) 46 [none, some (.int s)] [] (h_odds_lotsOfRow who_ name_ upper_ lower_ world_people_ world_gates_ world_hour_ world_texts_ world_ruling_ world_x_ world_row_size_ world_lot_ world_row_cells_)) x) : AJ (M_odds_lotsOfRow, d + 3, rr, h0, hF) 4 [some (.ref 0), some (.int l1), some (.int l2)] [] (h_odds_lotsOfRow who_ name_ upper_ lower_ world_people_ world_gates_ world_hour_ world_texts_ world_ruling_ world_x_ world_row_size_ world_lot_ world_row_cells_) := by
  unfold fb_odds_lotsOfRow_4 at hr
  refine AJ.g sK_odds_lotsOfRow 4 5 (True) 15 [some (.ref 0), some (.int l1), some (.int l2)] [.int world_row_size_, .int l2] (h_odds_lotsOfRow who_ name_ upper_ lower_ world_people_ world_gates_ world_hour_ world_texts_ world_ruling_ world_x_ world_row_size_ world_lot_ world_row_cells_) rfl trivial ?_
  refine AJ.iF hr (SK.at sK_odds_lotsOfRow 9 rfl) 46 18 rfl rfl rfl (fun hr => ?_) (fun hr => ?_)
  · refine AJ.g sK_odds_lotsOfRow 10 6 (True) 28 [some (.ref 0), some (.int l1), some (.int l2)] [.int 1, .int l2, .ref 2, .ref 0] (h_odds_lotsOfRow who_ name_ upper_ lower_ world_people_ world_gates_ world_hour_ world_texts_ world_ruling_ world_x_ world_row_size_ world_lot_ world_row_cells_) rfl trivial ?_
    refine k_b1 hr (fun r1 e4 hr => ?_)
    refine AJ.dV mk_tri_at (SK.at sK_odds_lotsOfRow 16 rfl) lk_3_51 (c_tri_at (size_ := world_row_size_) (cells_n := 36) (cells_ := world_row_cells_) e4) [2, 4] [] [.ref 0] 31 [.int r1, .ref 0] (h_odds_lotsOfRow who_ name_ upper_ lower_ world_people_ world_gates_ world_hour_ world_texts_ world_ruling_ world_x_ world_row_size_ world_lot_ world_row_cells_) rfl rfl rfl rfl rfl (by decide +kernel) rfl rfl rfl rfl (Nat.le_of_ble_eq_true rfl) rfl rfl rfl ?_
    refine k_b1 hr (fun r2 e3 hr => ?_)
    refine AJ.dV mk_odds_isOfLot (SK.at sK_odds_lotsOfRow 17 rfl) lk_3_55 (c_odds_isOfLot (who_ := who_) (name_ := name_) (upper_ := upper_) (lower_ := lower_) (world_people_ := world_people_) (world_gates_ := world_gates_) (world_hour_ := world_hour_) (world_texts_ := world_texts_) (world_ruling_ := world_ruling_) (world_x_ := world_x_) (world_lot_ := world_lot_) e3) [0, 1, 3] [5, 6, 7, 8, 9, 10, 11, 2, 12] [] 34 [.int r2] (h_odds_lotsOfRow who_ name_ upper_ lower_ world_people_ world_gates_ world_hour_ world_texts_ world_ruling_ world_x_ world_row_size_ world_lot_ world_row_cells_) rfl rfl rfl rfl rfl (by decide +kernel) rfl rfl rfl rfl (Nat.le_of_ble_eq_true rfl) rfl rfl rfl ?_
    refine AJ.iT hr (SK.at sK_odds_lotsOfRow 18 rfl) 40 37 rfl rfl rfl (fun hr => ?_) (fun hr => ?_)
    · refine AJ.g sK_odds_lotsOfRow 20 2 (True) 4 [some (.ref 0), some (.int l1), some (.int (l2 + 1))] [] (h_odds_lotsOfRow who_ name_ upper_ lower_ world_people_ world_gates_ world_hour_ world_texts_ world_ruling_ world_x_ world_row_size_ world_lot_ world_row_cells_) rfl trivial ?_
      cases hr
      refine AJ.fg [true, true, true] [some (.ref 0), some (.int l1), some (.int (l2 + 1))] rfl ?_
      exact hx
    · refine AJ.g sK_odds_lotsOfRow 19 1 (True) 40 [some (.ref 0), some (.int (l1 + 1)), some (.int l2)] [] (h_odds_lotsOfRow who_ name_ upper_ lower_ world_people_ world_gates_ world_hour_ world_texts_ world_ruling_ world_x_ world_row_size_ world_lot_ world_row_cells_) rfl trivial ?_
      refine AJ.g sK_odds_lotsOfRow 20 2 (True) 4 [some (.ref 0), some (.int (l1 + 1)), some (.int (l2 + 1))] [] (h_odds_lotsOfRow who_ name_ upper_ lower_ world_people_ world_gates_ world_hour_ world_texts_ world_ruling_ world_x_ world_row_size_ world_lot_ world_row_cells_) rfl trivial ?_
      cases hr
      refine AJ.fg [true, true, true] [some (.ref 0), some (.int (l1 + 1)), some (.int (l2 + 1))] rfl ?_
      exact hx
  · cases hr
    refine AJ.fg [false, true] [none, some (.int l1)] rfl ?_
    exact hx
set_option maxRecDepth 100000 in
set_option maxHeartbeats 4000000 in
theorem c_odds_lotsOfRow {d : Nat} {who_ : Int32} {name_ : Int32} {upper_ : Int64} {lower_ : Int64} {world_people_ : Int32} {world_gates_ : Int32} {world_hour_ : Int32} {world_texts_ : Int32} {world_ruling_ : Int32} {world_x_ : Int32} {world_row_size_ : Int32} {world_lot_ : Nat → Int32} {world_row_cells_ : Nat → Int32}  {r0 : Int32} (hr : f_odds_lotsOfRow world_gates_ world_row_size_ world_lot_ world_row_cells_ = some r0) : Ctr (d + 3) M_odds_lotsOfRow [.ref 0] (h_odds_lotsOfRow who_ name_ upper_ lower_ world_people_ world_gates_ world_hour_ world_texts_ world_ruling_ world_x_ world_row_size_ world_lot_ world_row_cells_) (some (.int r0)) (h_odds_lotsOfRow who_ name_ upper_ lower_ world_people_ world_gates_ world_hour_ world_texts_ world_ruling_ world_x_ world_row_size_ world_lot_ world_row_cells_) := by
  refine Ctr.start pn_odds [some (.ref 0)] (Nat.le_of_ble_eq_true rfl) rfl ?_
  unfold f_odds_lotsOfRow at hr
  refine AJ.g sK_odds_lotsOfRow 0 4 (True) 4 [some (.ref 0), some (.int 0), some (.int 0)] [] (h_odds_lotsOfRow who_ name_ upper_ lower_ world_people_ world_gates_ world_hour_ world_texts_ world_ruling_ world_x_ world_row_size_ world_lot_ world_row_cells_) rfl trivial ?_
  refine k_b1 hr (fun l1_5 he hr => ?_)
  refine AJ.fg [true, true, true] [some (.ref 0), some (.int 0), some (.int 0)] rfl ?_
  refine itr_ok (un2 (fb_odds_lotsOfRow_4 world_gates_ world_row_size_ world_lot_ world_row_cells_)) (fun s : (Int32 × Int32) => AJ _ 4 [some (.ref 0), some (.int s.1), some (.int s.2)] [] (h_odds_lotsOfRow who_ name_ upper_ lower_ world_people_ world_gates_ world_hour_ world_texts_ world_ruling_ world_x_ world_row_size_ world_lot_ world_row_cells_)) (fun s : Int32 => AJ _ 46 [none, some (.int s)] [] (h_odds_lotsOfRow who_ name_ upper_ lower_ world_people_ world_gates_ world_hour_ world_texts_ world_ruling_ world_x_ world_row_size_ world_lot_ world_row_cells_)) (fun s x hb hx => bt_odds_lotsOfRow_4 hb hx) KF (0, 0) l1_5 he (show AJ _ 46 [none, some (.int l1_5)] [] (h_odds_lotsOfRow who_ name_ upper_ lower_ world_people_ world_gates_ world_hour_ world_texts_ world_ruling_ world_x_ world_row_size_ world_lot_ world_row_cells_) from ?_)
  refine AJ.g sK_odds_lotsOfRow 22 1 (True) 47 [none, some (.int l1_5)] [.int l1_5] (h_odds_lotsOfRow who_ name_ upper_ lower_ world_people_ world_gates_ world_hour_ world_texts_ world_ruling_ world_x_ world_row_size_ world_lot_ world_row_cells_) rfl trivial ?_
  cases hr
  exact AJ.xi (SK.at sK_odds_lotsOfRow 23 rfl) rfl
theorem sK_town_packed : SK M_town_packed q_town_packed := sk_town_packed
set_option maxRecDepth 100000 in
set_option maxHeartbeats 4000000 in
theorem bt_town_packed_4 {d : Nat} {rr : Option Value} {h0 hF : List va_E} {sizes_ : Nat → Int32} {heaps_ : Nat → Nat → Int32} {names_ : Nat → Int32} {l1 : Int64} {l3 : Int32} {x : (Int64 × Int32) ⊕ Int64} (hr : fb_town_packed_4 names_ l1 l3 = some x) (hx : Sum.elim (fun s : (Int64 × Int32) => AJ (M_town_packed, d + 1, rr, h0, hF) 4 [some (.ref 0), some (.long s.1), none, some (.int s.2)] [] (h_town_packed sizes_ heaps_ names_)) (fun s : Int64 => AJ (M_town_packed, d + 1, rr, h0, hF) 43 [some (.ref 0), some (.long s)] [] (h_town_packed sizes_ heaps_ names_)) x) : AJ (M_town_packed, d + 1, rr, h0, hF) 4 [some (.ref 0), some (.long l1), none, some (.int l3)] [] (h_town_packed sizes_ heaps_ names_) := by
  unfold fb_town_packed_4 at hr
  refine AJ.g sK_town_packed 4 2 (True) 7 [some (.ref 0), some (.long l1), none, some (.int l3)] [.int 8, .int l3] (h_town_packed sizes_ heaps_ names_) rfl trivial ?_
  refine AJ.iF hr (SK.at sK_town_packed 6 rfl) 43 10 rfl rfl rfl (fun hr => ?_) (fun hr => ?_)
  · refine k_grd hr (fun g1 hr => ?_)
    refine AJ.g sK_town_packed 7 5 (inb l3 8 ∧ True) 17 [some (.ref 0), some (.long l1), none, some (.int l3)] [.int (-1), .int (names_ (ix l3))] (h_town_packed sizes_ heaps_ names_) rfl ⟨g1, trivial⟩ ?_
    refine AJ.iT hr (SK.at sK_town_packed 12 rfl) 37 20 rfl rfl rfl (fun hr => ?_) (fun hr => ?_)
    · refine AJ.g sK_town_packed 27 2 (True) 4 [some (.ref 0), some (.long l1), none, some (.int (l3 + 1))] [] (h_town_packed sizes_ heaps_ names_) rfl trivial ?_
      cases hr
      refine AJ.fg [true, true, false, true] [some (.ref 0), some (.long l1), none, some (.int (l3 + 1))] rfl ?_
      exact hx
    · refine k_grd hr (fun g2 hr => ?_)
      refine AJ.g sK_town_packed 13 14 (inb l3 8 ∧ True) 37 [some (.ref 0), some (.long (l1 ||| (((1 + l3).toInt64) <<< ((6 * (names_ (ix l3))).toInt64 &&& 63)))), none, some (.int l3)] [] (h_town_packed sizes_ heaps_ names_) rfl ⟨g2, trivial⟩ ?_
      replace hr := k_bnd hr
      generalize (l1 ||| (((1 + l3).toInt64) <<< ((6 * (names_ (ix l3))).toInt64 &&& 63)) : Int64) = t3 at hr ⊢
      refine AJ.g sK_town_packed 27 2 (True) 4 [some (.ref 0), some (.long t3), none, some (.int (l3 + 1))] [] (h_town_packed sizes_ heaps_ names_) rfl trivial ?_
      cases hr
      refine AJ.fg [true, true, false, true] [some (.ref 0), some (.long t3), none, some (.int (l3 + 1))] rfl ?_
      exact hx
  · cases hr
    refine AJ.fg [true, true] [some (.ref 0), some (.long l1)] rfl ?_
    exact hx
set_option maxRecDepth 100000 in
set_option maxHeartbeats 4000000 in
theorem bt_town_packed_53 {d : Nat} {rr : Option Value} {h0 hF : List va_E} {sizes_ : Nat → Int32} {heaps_ : Nat → Nat → Int32} {names_ : Nat → Int32} {l1 : Int64} {l3 : Int32} {l4 : Int32} {x : (Int64 × Int32) ⊕ Int64} (hr : fb_town_packed_53 sizes_ heaps_ l3 l1 l4 = some x) (hx : Sum.elim (fun s : (Int64 × Int32) => AJ (M_town_packed, d + 1, rr, h0, hF) 53 [some (.ref 0), some (.long s.1), none, some (.int l3), some (.int s.2)] [] (h_town_packed sizes_ heaps_ names_)) (fun s : Int64 => AJ (M_town_packed, d + 1, rr, h0, hF) 97 [some (.ref 0), some (.long s), none, some (.int l3)] [] (h_town_packed sizes_ heaps_ names_)) x) : AJ (M_town_packed, d + 1, rr, h0, hF) 53 [some (.ref 0), some (.long l1), none, some (.int l3), some (.int l4)] [] (h_town_packed sizes_ heaps_ names_) := by
  unfold fb_town_packed_53 at hr
  refine k_grd hr (fun g5 hr => ?_)
  refine AJ.g sK_town_packed 36 5 (inb l3 3 ∧ True) 61 [some (.ref 0), some (.long l1), none, some (.int l3), some (.int l4)] [.int (sizes_ (ix l3)), .int l4] (h_town_packed sizes_ heaps_ names_) rfl ⟨g5, trivial⟩ ?_
  refine AJ.iF hr (SK.at sK_town_packed 41 rfl) 97 64 rfl rfl rfl (fun hr => ?_) (fun hr => ?_)
  · refine AJ.g sK_town_packed 42 13 (True) 83 [some (.ref 0), some (.long l1), none, some (.int l3), some (.int l4)] [.int l3, .ref 2, .int 6, .long (((9 + (l3 * 8)) + l4).toInt64), .long l1] (h_town_packed sizes_ heaps_ names_) rfl trivial ?_
    refine k_grd hr (fun g6 hr => ?_)
    refine AJ.aal (c := 104) (x := rowp 3 l3) (fs := [.ref 3, .ref 4, .ref 5]) (SK.at sK_town_packed 55 rfl) rfl (Or.inr rfl) g6 (cs3 (k := ix l3) (P := fun k => ([.ref 3, .ref 4, .ref 5] : List Value)[k]? = some (.ref (3 + k))) g6.2 rfl rfl rfl) ?_
    refine AJ.g sK_town_packed 56 1 (True) 86 [some (.ref 0), some (.long l1), none, some (.int l3), some (.int l4)] [.int l4, .ref (rowp 3 l3), .int 6, .long (((9 + (l3 * 8)) + l4).toInt64), .long l1] (h_town_packed sizes_ heaps_ names_) rfl trivial ?_
    refine k_grd hr (fun g7 hr => ?_)
    refine AJ.ral (SK.at sK_town_packed 57 rfl) (cs3 (k := ix l3) (P := fun k => ((h_town_packed sizes_ heaps_ names_))[3 + k]? = some (.inl (0, 8, .inl (heaps_ k)))) (g6).2 rfl rfl rfl) g7 ?_
    refine AJ.g sK_town_packed 58 4 (True) 91 [some (.ref 0), some (.long (l1 ||| ((((9 + (l3 * 8)) + l4).toInt64) <<< ((6 * (heaps_ (ix l3) (ix l4))).toInt64 &&& 63)))), none, some (.int l3), some (.int l4)] [] (h_town_packed sizes_ heaps_ names_) rfl trivial ?_
    replace hr := k_bnd hr
    generalize (l1 ||| ((((9 + (l3 * 8)) + l4).toInt64) <<< ((6 * (heaps_ (ix l3) (ix l4))).toInt64 &&& 63)) : Int64) = t8 at hr ⊢
    refine AJ.g sK_town_packed 62 2 (True) 53 [some (.ref 0), some (.long t8), none, some (.int l3), some (.int (l4 + 1))] [] (h_town_packed sizes_ heaps_ names_) rfl trivial ?_
    cases hr
    refine AJ.fg [true, true, false, true, true] [some (.ref 0), some (.long t8), none, some (.int l3), some (.int (l4 + 1))] rfl ?_
    exact hx
  · cases hr
    refine AJ.fg [true, true, false, true] [some (.ref 0), some (.long l1), none, some (.int l3)] rfl ?_
    exact hx
set_option maxRecDepth 100000 in
set_option maxHeartbeats 4000000 in
theorem bt_town_packed_45 {d : Nat} {rr : Option Value} {h0 hF : List va_E} {sizes_ : Nat → Int32} {heaps_ : Nat → Nat → Int32} {names_ : Nat → Int32} {l1 : Int64} {l3 : Int32} {x : (Int64 × Int32) ⊕ Int64} (hr : fb_town_packed_45 sizes_ heaps_ l1 l3 = some x) (hx : Sum.elim (fun s : (Int64 × Int32) => AJ (M_town_packed, d + 1, rr, h0, hF) 45 [some (.ref 0), some (.long s.1), none, some (.int s.2)] [] (h_town_packed sizes_ heaps_ names_)) (fun s : Int64 => AJ (M_town_packed, d + 1, rr, h0, hF) 103 [none, some (.long s)] [] (h_town_packed sizes_ heaps_ names_)) x) : AJ (M_town_packed, d + 1, rr, h0, hF) 45 [some (.ref 0), some (.long l1), none, some (.int l3)] [] (h_town_packed sizes_ heaps_ names_) := by
  unfold fb_town_packed_45 at hr
  refine AJ.g sK_town_packed 31 2 (True) 47 [some (.ref 0), some (.long l1), none, some (.int l3)] [.int 3, .int l3] (h_town_packed sizes_ heaps_ names_) rfl trivial ?_
  refine AJ.iF hr (SK.at sK_town_packed 33 rfl) 103 50 rfl rfl rfl (fun hr => ?_) (fun hr => ?_)
  · refine AJ.g sK_town_packed 34 2 (True) 53 [some (.ref 0), some (.long l1), none, some (.int l3), some (.int 0)] [] (h_town_packed sizes_ heaps_ names_) rfl trivial ?_
    refine k_b1 hr (fun l1_9 he hr => ?_)
    refine AJ.fg [true, true, false, true, true] [some (.ref 0), some (.long l1), none, some (.int l3), some (.int 0)] rfl ?_
    refine itr_ok (un2 (fb_town_packed_53 sizes_ heaps_ l3)) (fun s : (Int64 × Int32) => AJ _ 53 [some (.ref 0), some (.long s.1), none, some (.int l3), some (.int s.2)] [] (h_town_packed sizes_ heaps_ names_)) (fun s : Int64 => AJ _ 97 [some (.ref 0), some (.long s), none, some (.int l3)] [] (h_town_packed sizes_ heaps_ names_)) (fun s x hb hx => bt_town_packed_53 hb hx) KF (l1, 0) l1_9 he (show AJ _ 97 [some (.ref 0), some (.long l1_9), none, some (.int l3)] [] (h_town_packed sizes_ heaps_ names_) from ?_)
    refine AJ.g sK_town_packed 64 2 (True) 45 [some (.ref 0), some (.long l1_9), none, some (.int (l3 + 1))] [] (h_town_packed sizes_ heaps_ names_) rfl trivial ?_
    cases hr
    refine AJ.fg [true, true, false, true] [some (.ref 0), some (.long l1_9), none, some (.int (l3 + 1))] rfl ?_
    exact hx
  · cases hr
    refine AJ.fg [false, true] [none, some (.long l1)] rfl ?_
    exact hx
set_option maxRecDepth 100000 in
set_option maxHeartbeats 4000000 in
theorem c_town_packed {d : Nat} {sizes_ : Nat → Int32} {heaps_ : Nat → Nat → Int32} {names_ : Nat → Int32}  {r0 : Int64} (hr : f_town_packed sizes_ heaps_ names_ = some r0) : Ctr (d + 1) M_town_packed [.ref 0] (h_town_packed sizes_ heaps_ names_) (some (.long r0)) (h_town_packed sizes_ heaps_ names_) := by
  refine Ctr.start pn_town [some (.ref 0)] (Nat.le_of_ble_eq_true rfl) rfl ?_
  unfold f_town_packed at hr
  refine AJ.g sK_town_packed 0 4 (True) 4 [some (.ref 0), some (.long 0), none, some (.int 0)] [] (h_town_packed sizes_ heaps_ names_) rfl trivial ?_
  refine k_b1 hr (fun l1_4 he hr => ?_)
  refine AJ.fg [true, true, false, true] [some (.ref 0), some (.long 0), none, some (.int 0)] rfl ?_
  refine itr_ok (un2 (fb_town_packed_4 names_)) (fun s : (Int64 × Int32) => AJ _ 4 [some (.ref 0), some (.long s.1), none, some (.int s.2)] [] (h_town_packed sizes_ heaps_ names_)) (fun s : Int64 => AJ _ 43 [some (.ref 0), some (.long s)] [] (h_town_packed sizes_ heaps_ names_)) (fun s x hb hx => bt_town_packed_4 hb hx) KF (0, 0) l1_4 he (show AJ _ 43 [some (.ref 0), some (.long l1_4)] [] (h_town_packed sizes_ heaps_ names_) from ?_)
  refine AJ.g sK_town_packed 29 2 (True) 45 [some (.ref 0), some (.long l1_4), none, some (.int 0)] [] (h_town_packed sizes_ heaps_ names_) rfl trivial ?_
  refine k_b1 hr (fun l1_10 he hr => ?_)
  refine AJ.fg [true, true, false, true] [some (.ref 0), some (.long l1_4), none, some (.int 0)] rfl ?_
  refine itr_ok (un2 (fb_town_packed_45 sizes_ heaps_)) (fun s : (Int64 × Int32) => AJ _ 45 [some (.ref 0), some (.long s.1), none, some (.int s.2)] [] (h_town_packed sizes_ heaps_ names_)) (fun s : Int64 => AJ _ 103 [none, some (.long s)] [] (h_town_packed sizes_ heaps_ names_)) (fun s x hb hx => bt_town_packed_45 hb hx) KF (l1_4, 0) l1_10 he (show AJ _ 103 [none, some (.long l1_10)] [] (h_town_packed sizes_ heaps_ names_) from ?_)
  refine AJ.g sK_town_packed 66 1 (True) 104 [none, some (.long l1_10)] [.long l1_10] (h_town_packed sizes_ heaps_ names_) rfl trivial ?_
  cases hr
  exact AJ.xl (SK.at sK_town_packed 67 rfl) rfl
theorem sK_town_unpack : SK M_town_unpack q_town_unpack := sk_town_unpack
set_option maxRecDepth 100000 in
set_option maxHeartbeats 4000000 in
theorem jt_town_unpack_91_18 {d : Nat} {names_ : Nat → Int32} {sizes_ : Nat → Int32} {heaps_ : Nat → Nat → Int32} {l1 : Int64} {l3 : Int32} {l4 : Int32}  {rr : Option Value} {h0 hF : List va_E} {x : (Int32 × (Nat → Int32) × (Nat → Int32) × (Nat → Nat → Int32)) ⊕ ((Nat → Int32) × (Nat → Int32) × (Nat → Nat → Int32))} (hr : fj_town_unpack_91_18 names_ sizes_ heaps_ l1 l3 l4 = some x) (hx : Sum.elim (fun s : (Int32 × (Nat → Int32) × (Nat → Int32) × (Nat → Nat → Int32)) => AJ (M_town_unpack, d + 2, rr, h0, hF) 18 [some (.ref 0), some (.long l1), none, some (.int s.1)] [] (h_town_unpack s.2.1 s.2.2.1 s.2.2.2)) (fun s : ((Nat → Int32) × (Nat → Int32) × (Nat → Nat → Int32)) => AJ (M_town_unpack, d + 2, rr, h0, hF) 120 [] [] (h_town_unpack s.1 s.2.1 s.2.2)) x) : AJ (M_town_unpack, d + 2, rr, h0, hF) 91 [some (.ref 0), some (.long l1), none, some (.int l3), some (.int l4)] [] (h_town_unpack names_ sizes_ heaps_) := by
  unfold fj_town_unpack_91_18 at hr
  refine AJ.g sK_town_unpack 54 2 (True) 94 [some (.ref 0), some (.long l1), none, some (.int l3), some (.int l4)] [.int 1, .int l4] (h_town_unpack names_ sizes_ heaps_) rfl trivial ?_
  refine AJ.iT hr (SK.at sK_town_unpack 56 rfl) 114 97 rfl rfl rfl (fun hr => ?_) (fun hr => ?_)
  · refine AJ.g sK_town_unpack 67 2 (True) 18 [some (.ref 0), some (.long l1), none, some (.int (l3 + 1)), some (.int l4)] [] (h_town_unpack names_ sizes_ heaps_) rfl trivial ?_
    cases hr
    refine AJ.fg [true, true, false, true] [some (.ref 0), some (.long l1), none, some (.int (l3 + 1))] rfl ?_
    exact hx
  · refine AJ.g sK_town_unpack 57 2 (True) 101 [some (.ref 0), some (.long l1), none, some (.int l3), some (.int l4)] [.int 9, .int l4] (h_town_unpack names_ sizes_ heaps_) rfl trivial ?_
    refine AJ.iF hr (SK.at sK_town_unpack 59 rfl) 114 104 rfl rfl rfl (fun hr => ?_) (fun hr => ?_)
    · refine k_grd hr (fun g4 hr => ?_)
      refine AJ.g sK_town_unpack 60 7 (inb (l4 - 1) 8 ∧ True) 114 [some (.ref 0), some (.long l1), none, some (.int l3), some (.int l4)] [] (h_town_unpack (upd names_ (ix (l4 - 1)) l3) sizes_ heaps_) rfl ⟨g4, trivial⟩ ?_
      replace hr := k_bnd hr
      generalize (upd names_ (ix (l4 - 1)) l3 : Nat → Int32) = names_5 at hr ⊢
      refine AJ.g sK_town_unpack 67 2 (True) 18 [some (.ref 0), some (.long l1), none, some (.int (l3 + 1)), some (.int l4)] [] (h_town_unpack names_5 sizes_ heaps_) rfl trivial ?_
      cases hr
      refine AJ.fg [true, true, false, true] [some (.ref 0), some (.long l1), none, some (.int (l3 + 1))] rfl ?_
      exact hx
    · refine AJ.g sK_town_unpack 67 2 (True) 18 [some (.ref 0), some (.long l1), none, some (.int (l3 + 1)), some (.int l4)] [] (h_town_unpack names_ sizes_ heaps_) rfl trivial ?_
      cases hr
      refine AJ.fg [true, true, false, true] [some (.ref 0), some (.long l1), none, some (.int (l3 + 1))] rfl ?_
      exact hx
set_option maxRecDepth 100000 in
set_option maxHeartbeats 4000000 in
theorem bt_town_unpack_18 {d : Nat} {rr : Option Value} {h0 hF : List va_E} {names_ : Nat → Int32} {sizes_ : Nat → Int32} {heaps_ : Nat → Nat → Int32} {l1 : Int64} {l3 : Int32} {x : (Int32 × (Nat → Int32) × (Nat → Int32) × (Nat → Nat → Int32)) ⊕ ((Nat → Int32) × (Nat → Int32) × (Nat → Nat → Int32))} (hr : fb_town_unpack_18 l1 l3 names_ sizes_ heaps_ = some x) (hx : Sum.elim (fun s : (Int32 × (Nat → Int32) × (Nat → Int32) × (Nat → Nat → Int32)) => AJ (M_town_unpack, d + 2, rr, h0, hF) 18 [some (.ref 0), some (.long l1), none, some (.int s.1)] [] (h_town_unpack s.2.1 s.2.2.1 s.2.2.2)) (fun s : ((Nat → Int32) × (Nat → Int32) × (Nat → Nat → Int32)) => AJ (M_town_unpack, d + 2, rr, h0, hF) 120 [] [] (h_town_unpack s.1 s.2.1 s.2.2)) x) : AJ (M_town_unpack, d + 2, rr, h0, hF) 18 [some (.ref 0), some (.long l1), none, some (.int l3)] [] (h_town_unpack names_ sizes_ heaps_) := by
  unfold fb_town_unpack_18 at hr
  refine AJ.g sK_town_unpack 10 2 (True) 21 [some (.ref 0), some (.long l1), none, some (.int l3)] [.int 8, .int l3] (h_town_unpack names_ sizes_ heaps_) rfl trivial ?_
  refine AJ.iF hr (SK.at sK_town_unpack 12 rfl) 120 24 rfl rfl rfl (fun hr => ?_) (fun hr => ?_)
  · refine AJ.g sK_town_unpack 13 9 (True) 36 [some (.ref 0), some (.long l1), none, some (.int l3), some (.int ((((l1.toUInt64 >>> ((6 * l3 : Int32).toInt64.toUInt64 &&& Int64.toUInt64 63)).toInt64).toInt32) &&& 63))] [] (h_town_unpack names_ sizes_ heaps_) rfl trivial ?_
    replace hr := k_bnd hr
    generalize ((((l1.toUInt64 >>> ((6 * l3 : Int32).toInt64.toUInt64 &&& Int64.toUInt64 63)).toInt64).toInt32) &&& 63 : Int32) = t3 at hr ⊢
    refine AJ.g sK_town_unpack 22 2 (True) 40 [some (.ref 0), some (.long l1), none, some (.int l3), some (.int t3)] [.int 9, .int t3] (h_town_unpack names_ sizes_ heaps_) rfl trivial ?_
    refine AJ.iT hr (SK.at sK_town_unpack 24 rfl) 91 43 rfl rfl rfl (fun hr => ?_) (fun hr => ?_)
    · refine AJ.fg [true, true, false, true, true] [some (.ref 0), some (.long l1), none, some (.int l3), some (.int t3)] rfl ?_
      exact jt_town_unpack_91_18 hr hx
    · refine AJ.g sK_town_unpack 25 2 (True) 47 [some (.ref 0), some (.long l1), none, some (.int l3), some (.int t3)] [.int 32, .int t3] (h_town_unpack names_ sizes_ heaps_) rfl trivial ?_
      refine AJ.iT hr (SK.at sK_town_unpack 27 rfl) 91 50 rfl rfl rfl (fun hr => ?_) (fun hr => ?_)
      · refine AJ.fg [true, true, false, true, true] [some (.ref 0), some (.long l1), none, some (.int l3), some (.int t3)] rfl ?_
        exact jt_town_unpack_91_18 hr hx
      · refine AJ.g sK_town_unpack 28 9 (¬ (8 : Int32) = 0 ∧ True) 66 [some (.ref 0), some (.long l1), none, some (.int l3), some (.int t3), some (.int ((t3 - 9) / 8))] [.int ((t3 - 9) / 8), .ref 3] (h_town_unpack names_ sizes_ heaps_) rfl ⟨by decide, trivial⟩ ?_
        refine k_grd hr (fun g6 hr => ?_)
        refine AJ.aal (c := 104) (x := rowp 4 ((t3 - 9) / 8)) (fs := [.ref 4, .ref 5, .ref 6]) (SK.at sK_town_unpack 37 rfl) rfl (Or.inr rfl) g6 (cs3 (k := ix ((t3 - 9) / 8)) (P := fun k => ([.ref 4, .ref 5, .ref 6] : List Value)[k]? = some (.ref (4 + k))) g6.2 rfl rfl rfl) ?_
        refine AJ.g sK_town_unpack 38 6 (¬ (8 : Int32) = 0 ∧ True) 76 [some (.ref 0), some (.long l1), none, some (.int l3), some (.int t3), some (.int ((t3 - 9) / 8))] [.int l3, .int (rem32 (t3 - 9) 8), .ref (rowp 4 ((t3 - 9) / 8))] (h_town_unpack names_ sizes_ heaps_) rfl ⟨by decide, trivial⟩ ?_
        refine k_grd hr (fun g7 hr => ?_)
        refine AJ.ras (SK.at sK_town_unpack 44 rfl) (cs3 (k := ix ((t3 - 9) / 8)) (P := fun k => ((h_town_unpack names_ sizes_ heaps_))[4 + k]? = some (.inl (0, 8, .inl (heaps_ k)))) (g6).2 rfl rfl rfl) g7 (h_town_unpack names_ sizes_ (setR heaps_ (ix ((t3 - 9) / 8)) (upd (heaps_ (ix ((t3 - 9) / 8))) (ix (rem32 (t3 - 9) 8)) l3))) (cs3 (k := ix ((t3 - 9) / 8)) (P := fun k => ((h_town_unpack names_ sizes_ heaps_)).set (4 + k) (.inl (0, 8, .inl (upd (heaps_ k) (ix (rem32 (t3 - 9) 8)) l3))) = (h_town_unpack names_ sizes_ (setR heaps_ k (upd (heaps_ k) (ix (rem32 (t3 - 9) 8)) l3)))) (g6).2 rfl rfl rfl) ?_
        replace hr := k_bnd hr
        generalize (setR heaps_ (ix ((t3 - 9) / 8)) (upd (heaps_ (ix ((t3 - 9) / 8))) (ix (rem32 (t3 - 9) 8)) l3) : Nat → Nat → Int32) = heaps_8 at hr ⊢
        refine k_grd hr (fun g9 hr => ?_)
        refine k_grd hr (fun g10 hr => ?_)
        refine AJ.g sK_town_unpack 45 8 (inb ((t3 - 9) / 8) 3 ∧ inb ((t3 - 9) / 8) 3 ∧ True) 88 [some (.ref 0), some (.long l1), none, some (.int l3), some (.int t3), some (.int ((t3 - 9) / 8))] [] (h_town_unpack names_ (upd sizes_ (ix ((t3 - 9) / 8)) ((sizes_ (ix ((t3 - 9) / 8))) + 1)) heaps_8) rfl ⟨g9, g10, trivial⟩ ?_
        replace hr := k_bnd hr
        generalize (upd sizes_ (ix ((t3 - 9) / 8)) ((sizes_ (ix ((t3 - 9) / 8))) + 1) : Nat → Int32) = sizes_11 at hr ⊢
        refine AJ.g sK_town_unpack 53 1 (True) 114 [some (.ref 0), some (.long l1), none, some (.int l3), some (.int t3), some (.int ((t3 - 9) / 8))] [] (h_town_unpack names_ sizes_11 heaps_8) rfl trivial ?_
        refine AJ.g sK_town_unpack 67 2 (True) 18 [some (.ref 0), some (.long l1), none, some (.int (l3 + 1)), some (.int t3), some (.int ((t3 - 9) / 8))] [] (h_town_unpack names_ sizes_11 heaps_8) rfl trivial ?_
        cases hr
        refine AJ.fg [true, true, false, true] [some (.ref 0), some (.long l1), none, some (.int (l3 + 1))] rfl ?_
        exact hx
  · cases hr
    refine AJ.fg [] [] rfl ?_
    exact hx
set_option maxRecDepth 100000 in
set_option maxHeartbeats 4000000 in
theorem c_town_unpack {d : Nat} {names_ : Nat → Int32} {sizes_ : Nat → Int32} {heaps_ : Nat → Nat → Int32} {l1 : Int64} {names_Z : Nat → Int32} {sizes_Z : Nat → Int32} {heaps_Z : Nat → Nat → Int32} (hr : f_town_unpack names_ sizes_ heaps_ l1 = some (names_Z, sizes_Z, heaps_Z)) : Ctr (d + 2) M_town_unpack [.ref 0, .long l1] (h_town_unpack names_ sizes_ heaps_) none (h_town_unpack names_Z sizes_Z heaps_Z) := by
  refine Ctr.start pn_town [some (.ref 0), some (.long l1), none] (Nat.le_of_ble_eq_true rfl) rfl ?_
  unfold f_town_unpack at hr
  refine AJ.g sK_town_unpack 0 3 (True) 5 [some (.ref 0), some (.long l1), none] [.int (-1), .ref 1] (h_town_unpack names_ sizes_ heaps_) rfl trivial ?_
  refine k_b1 hr (fun names_1 e16 hr => ?_)
  refine AJ.dS mk_arr_fill_II (SK.at sK_town_unpack 3 rfl) lk_7_23 (c_arr_fill_II (p0_n := 8) (p0_ := names_) e16) [1] [] [] 8 [] (h_town_unpack names_1 sizes_ heaps_) rfl rfl (by decide +kernel) rfl rfl rfl rfl (Nat.le_of_ble_eq_true rfl) rfl rfl rfl ?_
  refine AJ.g sK_town_unpack 4 3 (True) 13 [some (.ref 0), some (.long l1), none] [.int 0, .ref 2] (h_town_unpack names_1 sizes_ heaps_) rfl trivial ?_
  refine k_b1 hr (fun sizes_2 e15 hr => ?_)
  refine AJ.dS mk_arr_fill_II (SK.at sK_town_unpack 7 rfl) lk_7_23 (c_arr_fill_II (p0_n := 3) (p0_ := sizes_) e15) [2] [] [] 16 [] (h_town_unpack names_1 sizes_2 heaps_) rfl rfl (by decide +kernel) rfl rfl rfl rfl (Nat.le_of_ble_eq_true rfl) rfl rfl rfl ?_
  refine AJ.g sK_town_unpack 8 2 (True) 18 [some (.ref 0), some (.long l1), none, some (.int 0)] [] (h_town_unpack names_1 sizes_2 heaps_) rfl trivial ?_
  refine k_b3 hr (fun names_12 sizes_13 heaps_14 he hr => ?_)
  refine AJ.fg [true, true, false, true] [some (.ref 0), some (.long l1), none, some (.int 0)] rfl ?_
  refine itr_ok (un4 (fb_town_unpack_18 l1)) (fun s : (Int32 × (Nat → Int32) × (Nat → Int32) × (Nat → Nat → Int32)) => AJ _ 18 [some (.ref 0), some (.long l1), none, some (.int s.1)] [] (h_town_unpack s.2.1 s.2.2.1 s.2.2.2)) (fun s : ((Nat → Int32) × (Nat → Int32) × (Nat → Nat → Int32)) => AJ _ 120 [] [] (h_town_unpack s.1 s.2.1 s.2.2)) (fun s x hb hx => bt_town_unpack_18 hb hx) KF (0, names_1, sizes_2, heaps_) (names_12, sizes_13, heaps_14) he (show AJ _ 120 [] [] (h_town_unpack names_12 sizes_13 heaps_14) from ?_)
  cases hr
  exact AJ.xv (SK.at sK_town_unpack 69 rfl) rfl
