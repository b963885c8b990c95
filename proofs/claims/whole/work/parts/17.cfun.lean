def bzs : Nat → (Nat → Int32) → Bool
  | 0, _ => true
  | n + 1, f => bzs n f && decide (bz (f n))
theorem bzs_at : ∀ {n : Nat} {f : Nat → Int32}, bzs n f = true → ∀ i, i < n → bz (f i)
  | 0, _, _, i, hi => absurd hi (Nat.not_lt_zero i)
  | n + 1, f, h, i, hi => by
    unfold bzs at h
    rw [Bool.and_eq_true, decide_eq_true_eq] at h
    rcases Nat.lt_succ_iff_lt_or_eq.mp hi with hi | rfl
    · exact bzs_at h.1 i hi
    · exact h.2
def chr0 (k : Nat) : Int32 := (scB.getD 0 []).getD k 0
def chr1 (k : Nat) : Int32 := (scB.getD 1 []).getD k 0
def ixc1 (c : Int32) : Int32 := ixF c (scB.getD 1 []) 0
def fb_arr_fill_II_5 (p0_n : Nat) (l1 : Int32) (l3 : Int32) (l2 : Int32) (p0_ : Nat → Int32) : Option ((Int32 × (Nat → Int32)) ⊕ (Nat → Int32)) :=
  if l2 < l3 then
    if inb l2 p0_n then
      bnd (upd p0_ (ix l2) l1 : Nat → Int32) fun p0_2 =>
      some (.inl (l2 + 1, p0_2))
    else none
  else
    some (.inr p0_)
def f_arr_fill_II (p0_n : Nat) (p0_ : Nat → Int32) (l1 : Int32) : Option (Nat → Int32) :=
  (itr (un2 (fb_arr_fill_II_5 p0_n l1 (Int32.ofNat p0_n))) KF (0, p0_)).bind
    (fun p0_3 =>
      some p0_3
    )
def f_math_max_II (l0 : Int32) (l1 : Int32) : Option (Int32) :=
  if l0 < l1 then
    some l1
  else
    some l0
def f_math_max_JJ (l0 : Int64) (l2 : Int64) : Option (Int64) :=
  if (lg_cmp l0 l2) < 0 then
    some l2
  else
    some l0
def f_math_min_II (l0 : Int32) (l1 : Int32) : Option (Int32) :=
  if l1 < l0 then
    some l1
  else
    some l0
def f_math_min_JJ (l0 : Int64) (l2 : Int64) : Option (Int64) :=
  if 0 < (lg_cmp l0 l2) then
    some l2
  else
    some l0
def f_town_nameAtBirth (names_ : Nat → Int32) (l1 : Int32) (l2 : Int32) : Option (Nat → Int32) :=
  if l1 < 0 then
    some names_
  else
    if l1 < 8 then
      if inb l1 8 then
        bnd (upd names_ (ix l1) l2 : Nat → Int32) fun names_2 =>
        some names_2
      else none
    else
      some names_
def fj_world_addPerson_51 (people_ : Int32) (born_ : Nat → Int32) (paid_ : Nat → Int32) (done_ : Nat → Int32) (town_names_ : Nat → Int32) (l2 : Int32) (s0 : Int32) (s1 : Int32) : Option ((Int32 × Int32 × (Nat → Int32) × (Nat → Int32) × (Nat → Int32) × (Nat → Int32))) :=
  (f_town_nameAtBirth town_names_ s0 s1).bind (fun town_names_7 =>
  some (l2, people_ + 1, born_, paid_, done_, town_names_7))
def f_world_addPerson (people_ : Int32) (born_ : Nat → Int32) (paid_ : Nat → Int32) (done_ : Nat → Int32) (town_names_ : Nat → Int32) (l1 : Int32) : Option ((Int32 × Int32 × (Nat → Int32) × (Nat → Int32) × (Nat → Int32) × (Nat → Int32))) :=
  if people_ < 8 then
    if inb people_ 8 then
      bnd (upd born_ (ix people_) (vp_nar .boolean l1) : Nat → Int32) fun born_2 =>
      if inb people_ 8 then
        bnd (upd paid_ (ix people_) 0 : Nat → Int32) fun paid_4 =>
        if inb people_ 8 then
          bnd (upd done_ (ix people_) 0 : Nat → Int32) fun done_6 =>
          if l1 = 0 then
            fj_world_addPerson_51 people_ born_2 paid_4 done_6 town_names_ people_ people_ (-1)
          else
            fj_world_addPerson_51 people_ born_2 paid_4 done_6 town_names_ people_ people_ people_
        else none
      else none
    else none
  else
    some ((-1), people_, born_, paid_, done_, town_names_)
def f_x_person (now_people_ : Int32) (now_born_ : Nat → Int32) (now_paid_ : Nat → Int32) (now_done_ : Nat → Int32) (now_town_names_ : Nat → Int32) (l1 : Int32) : Option ((Int32 × Int32 × (Nat → Int32) × (Nat → Int32) × (Nat → Int32) × (Nat → Int32))) :=
  (f_world_addPerson now_people_ now_born_ now_paid_ now_done_ now_town_names_ l1).bind (un6 fun r1 now_people_2 now_born_3 now_paid_4 now_done_5 now_town_names_6 =>
  some (r1, now_people_2, now_born_3, now_paid_4, now_done_5, now_town_names_6))
def f_world_addGate (gates_ : Int32) (lot_ : Nat → Int32) (l1 : Int32) : Option ((Int32 × Int32 × (Nat → Int32))) :=
  if gates_ < 3 then
    if inb gates_ 3 then
      bnd (upd lot_ (ix gates_) (vp_nar .boolean l1) : Nat → Int32) fun lot_2 =>
      some ((gates_ + 1) - 1, gates_ + 1, lot_2)
    else none
  else
    some ((-1), gates_, lot_)
def f_x_gate (now_gates_ : Int32) (now_lot_ : Nat → Int32) (l1 : Int32) : Option ((Int32 × Int32 × (Nat → Int32))) :=
  (f_world_addGate now_gates_ now_lot_ l1).bind (un3 fun r1 now_gates_2 now_lot_3 =>
  some (r1, now_gates_2, now_lot_3))
def f_x_hour (now_hour_ : Int32) (l1 : Int32) : Option ((Int32 × Int32)) :=
  if l1 < 0 then
    some (0, now_hour_)
  else
    if l1 < 24 then
      some (1, l1)
    else
      some (0, now_hour_)
def fb_rd_addFour_3 (l1 : Int32) (l2 : Int32) (length_ : Int32) (bytes_ : Nat → Int32) : Option ((Int32 × Int32 × (Nat → Int32)) ⊕ (Int32 × (Nat → Int32))) :=
  if l2 < 0 then
    some (.inr (length_, bytes_))
  else
    if length_ < 300 then
      if inb length_ 300 then
        bnd (upd bytes_ (ix length_) (((l1.toUInt32 >>> ((l2 : Int32).toUInt32 &&& Int32.toUInt32 31)).toInt32) &&& 255) : Nat → Int32) fun bytes_2 =>
        some (.inl (l2 + (-8), length_ + 1, bytes_2))
      else none
    else
      some (.inl (l2 + (-8), length_, bytes_))
def f_rd_addFour (length_ : Int32) (bytes_ : Nat → Int32) (l1 : Int32) : Option ((Int32 × (Nat → Int32))) :=
  (itr (un3 (fb_rd_addFour_3 l1)) KF (24, length_, bytes_)).bind
    (un2 fun length_3 bytes_4 =>
      some (length_3, bytes_4)
    )
def f_x_feed (reader_length_ : Int32) (reader_bytes_ : Nat → Int32) (l1 : Int32) (l2 : Int32) (l3 : Int32) (l4 : Int32) (l5 : Int32) : Option ((Int32 × Int32 × (Nat → Int32))) :=
  if 300 < (reader_length_ + 20) then
    some ((-1), reader_length_, reader_bytes_)
  else
    (f_rd_addFour reader_length_ reader_bytes_ l1).bind (un2 fun reader_length_1 reader_bytes_2 =>
    (f_rd_addFour reader_length_1 reader_bytes_2 l2).bind (un2 fun reader_length_3 reader_bytes_4 =>
    (f_rd_addFour reader_length_3 reader_bytes_4 l3).bind (un2 fun reader_length_5 reader_bytes_6 =>
    (f_rd_addFour reader_length_5 reader_bytes_6 l4).bind (un2 fun reader_length_7 reader_bytes_8 =>
    (f_rd_addFour reader_length_7 reader_bytes_8 l5).bind (un2 fun reader_length_9 reader_bytes_10 =>
    some (reader_length_9, reader_length_9, reader_bytes_10))))))
def f_x_end (reader_length_ : Int32) (l1 : Int32) : Option ((Int32 × Int32)) :=
  if l1 < 0 then
    some ((-1), reader_length_)
  else
    if reader_length_ < l1 then
      some ((-1), reader_length_)
    else
      some (l1, l1)
def f_rd_byteAt (length_ : Int32) (bytes_ : Nat → Int32) (l1 : Int32) : Option (Int32) :=
  if l1 < 0 then
    some 0
  else
    if l1 < length_ then
      if inb l1 300 then
        some (bytes_ (ix l1))
      else none
    else
      some 0
def f_rd_isBlank (l0 : Int32) : Option (Int32) :=
  if l0 = 32 then
    some 1
  else
    if l0 = 10 then
      some 1
    else
      some 0
def fj_rd_isLetter_12 (l0 : Int32) : Option (Int32) :=
  if l0 < 65 then
    some 0
  else
    if 90 < l0 then
      some 0
    else
      some 1
def f_rd_isLetter (l0 : Int32) : Option (Int32) :=
  if l0 < 97 then
    fj_rd_isLetter_12 l0
  else
    if 122 < l0 then
      fj_rd_isLetter_12 l0
    else
      some 1
def f_rd_isDigit (l0 : Int32) : Option (Int32) :=
  if l0 < 48 then
    some 0
  else
    if 57 < l0 then
      some 0
    else
      some 1
def fj_rd_endOfToken_86 (length_ : Int32) (bytes_ : Nat → Int32) (l3 : Int32) : Option (Int32) :=
  (f_rd_byteAt length_ bytes_ l3).bind (fun r4 =>
  if r4 = 61 then
    some (l3 + 1)
  else
    some l3)
def fb_rd_endOfToken_49 (length_ : Int32) (bytes_ : Nat → Int32) (l3 : Int32) : Option (Int32 ⊕ Int32) :=
  if l3 < length_ then
    (f_rd_byteAt length_ bytes_ l3).bind (fun r6 =>
    (f_rd_isDigit r6).bind (fun r7 =>
    if r7 = 0 then
      some (.inr l3)
    else
      some (.inl (l3 + 1))))
  else
    some (.inr l3)
def fb_rd_endOfToken_17 (length_ : Int32) (bytes_ : Nat → Int32) (l3 : Int32) : Option (Int32 ⊕ Int32) :=
  if l3 < length_ then
    (f_rd_byteAt length_ bytes_ l3).bind (fun r12 =>
    (f_rd_isLetter r12).bind (fun r13 =>
    if r13 = 0 then
      some (.inr l3)
    else
      some (.inl (l3 + 1))))
  else
    some (.inr l3)
def f_rd_endOfToken (length_ : Int32) (bytes_ : Nat → Int32) (l1 : Int32) : Option (Int32) :=
  (f_rd_byteAt length_ bytes_ l1).bind (fun r1 =>
  (f_rd_isLetter r1).bind (fun r2 =>
  if r2 = 0 then
    (f_rd_isDigit r1).bind (fun r3 =>
    if r3 = 0 then
      if r1 = 60 then
        fj_rd_endOfToken_86 length_ bytes_ (l1 + 1)
      else
        if r1 = 62 then
          fj_rd_endOfToken_86 length_ bytes_ (l1 + 1)
        else
          some (l1 + 1)
    else
      (itr (fb_rd_endOfToken_49 length_ bytes_) KF (l1 + 1)).bind
        (fun l3_10 =>
          some l3_10
        ))
  else
    (itr (fb_rd_endOfToken_17 length_ bytes_) KF (l1 + 1)).bind
      (fun l3_16 =>
        some l3_16
      )))
def fb_rd_isWordAt_3 (length_ : Int32) (bytes_ : Nat → Int32) (l1 : Int32) (l2 : Int32) (l3 : Int32) (l4 : Int32) : Option (Int32 ⊕ (Unit ⊕ Unit)) :=
  if l4 < l3 then
    if ((l1 + l4) - l2) < 0 then
      some (.inr (.inl ()))
    else
      if ((l1 + l4) - l2) < 68 then
        if inb ((l1 + l4) - l2) 68 then
          (f_rd_byteAt length_ bytes_ l4).bind (fun r2 =>
          if (chr0 (ix ((l1 + l4) - l2))) = r2 then
            some (.inl (l4 + 1))
          else
            some (.inr (.inl ())))
        else none
      else
        some (.inr (.inl ()))
  else
    some (.inr (.inr (())))
def f_rd_isWordAt (length_ : Int32) (bytes_ : Nat → Int32) (l1 : Int32) (l2 : Int32) (l3 : Int32) : Option (Int32) :=
  (itr (fb_rd_isWordAt_3 length_ bytes_ l1 l2 l3) KF l2).bind
    (Sum.elim
      (fun _ =>
        some 0
      )
      (fun _ =>
        some 1
      )
    )
def fb_rd_kindOfWord_9 (length_ : Int32) (bytes_ : Nat → Int32) (l1 : Int32) (l2 : Int32) (l3 : Int32) (l4 : Int32) (l5 : Int32) : Option ((Int32 × Int32 × Int32) ⊕ (Int32 ⊕ Unit)) :=
  if l5 < 68 then
    if inb l5 68 then
      if (chr0 (ix l5)) = 32 then
        if (l5 - l4) = (l2 - l1) then
          (f_rd_isWordAt length_ bytes_ l4 l1 l2).bind (fun r2 =>
          if r2 = 0 then
            some (.inl (l3 + 1, l5 + 1, l5 + 1))
          else
            some (.inr (.inl l3)))
        else
          some (.inl (l3 + 1, l5 + 1, l5 + 1))
      else
        some (.inl (l3, l4, l5 + 1))
    else none
  else
    some (.inr (.inr (())))
def f_rd_kindOfWord (length_ : Int32) (bytes_ : Nat → Int32) (l1 : Int32) (l2 : Int32) : Option (Int32) :=
  (itr (un3 (fb_rd_kindOfWord_9 length_ bytes_ l1 l2)) KF (20, 0, 0)).bind
    (Sum.elim
      (fun l3_4 =>
        some l3_4
      )
      (fun _ =>
        some 1
      )
    )
def f_rd_kindOfToken (length_ : Int32) (bytes_ : Nat → Int32) (l1 : Int32) (l2 : Int32) : Option (Int32) :=
  (f_rd_byteAt length_ bytes_ l1).bind (fun r1 =>
  (f_rd_isLetter r1).bind (fun r2 =>
  if r2 = 0 then
    (f_rd_isDigit r1).bind (fun r3 =>
    if r3 = 0 then
      if (l2 - l1) = 2 then
        if r1 = 60 then
          some 15
        else
          some 16
      else
        if (ixc1 ((r1.toUInt32 % 65536).toInt32)) < 0 then
          some 1
        else
          some (3 + (ixc1 ((r1.toUInt32 % 65536).toInt32)))
    else
      some 2)
  else
    (f_rd_kindOfWord length_ bytes_ l1 l2).bind (fun r5 =>
    some r5)))
def fb_rd_numberOf_5 (length_ : Int32) (bytes_ : Nat → Int32) (l2 : Int32) (l3 : Int32) (l4 : Int32) : Option ((Int32 × Int32) ⊕ Int32) :=
  if l4 < l2 then
    (f_rd_byteAt length_ bytes_ l4).bind (fun r1 =>
    (f_math_min_II (((l3 * 10) + r1) - 48) 10000).bind (fun r2 =>
    some (.inl (r2, l4 + 1))))
  else
    some (.inr l3)
def f_rd_numberOf (length_ : Int32) (bytes_ : Nat → Int32) (l1 : Int32) (l2 : Int32) : Option (Int32) :=
  (itr (un2 (fb_rd_numberOf_5 length_ bytes_ l2)) KF (0, l1)).bind
    (fun l3_5 =>
      some l3_5
    )
def f_rd_addToken (tokens_ : Int32) (kinds_ : Nat → Int32) (starts_ : Nat → Int32) (numbers_ : Nat → Int32) (l1 : Int32) (l2 : Int32) (l3 : Int32) : Option ((Int32 × (Nat → Int32) × (Nat → Int32) × (Nat → Int32))) :=
  if tokens_ < 301 then
    if inb tokens_ 301 then
      bnd (upd kinds_ (ix tokens_) l1 : Nat → Int32) fun kinds_2 =>
      if inb tokens_ 301 then
        bnd (upd starts_ (ix tokens_) l2 : Nat → Int32) fun starts_4 =>
        if inb tokens_ 301 then
          bnd (upd numbers_ (ix tokens_) l3 : Nat → Int32) fun numbers_6 =>
          some (tokens_ + 1, kinds_2, starts_4, numbers_6)
        else none
      else none
    else none
  else
    some (tokens_, kinds_, starts_, numbers_)
def fj_rd_split_77_9 (length_ : Int32) (tokens_ : Int32) (kinds_ : Nat → Int32) (starts_ : Nat → Int32) (numbers_ : Nat → Int32) (bytes_ : Nat → Int32) (l2 : Int32) (l4 : Int32) (s0 : Int32) (s1 : Int32) (s2 : Int32) : Option ((Int32 × Int32 × Int32 × (Nat → Int32) × (Nat → Int32) × (Nat → Int32)) ⊕ (Int32 × (Nat → Int32) × (Nat → Int32) × (Nat → Int32))) :=
  (f_rd_addToken tokens_ kinds_ starts_ numbers_ s0 s1 s2).bind (un4 fun tokens_6 kinds_7 starts_8 numbers_9 =>
  some (.inl (l4, l2 + 1, tokens_6, kinds_7, starts_8, numbers_9)))
def fb_rd_split_9 (length_ : Int32) (bytes_ : Nat → Int32) (l1 : Int32) (l2 : Int32) (tokens_ : Int32) (kinds_ : Nat → Int32) (starts_ : Nat → Int32) (numbers_ : Nat → Int32) : Option ((Int32 × Int32 × Int32 × (Nat → Int32) × (Nat → Int32) × (Nat → Int32)) ⊕ (Int32 × (Nat → Int32) × (Nat → Int32) × (Nat → Int32))) :=
  if l2 < 300 then
    if l1 < length_ then
      (f_rd_byteAt length_ bytes_ l1).bind (fun r1 =>
      (f_rd_isBlank r1).bind (fun r2 =>
      if r2 = 0 then
        (f_rd_endOfToken length_ bytes_ l1).bind (fun r3 =>
        (f_rd_kindOfToken length_ bytes_ l1 r3).bind (fun r4 =>
        (f_rd_isDigit r1).bind (fun r5 =>
        if r5 = 0 then
          fj_rd_split_77_9 length_ tokens_ kinds_ starts_ numbers_ bytes_ l2 r3 r4 l1 0
        else
          (f_rd_numberOf length_ bytes_ l1 r3).bind (fun r11 =>
          fj_rd_split_77_9 length_ tokens_ kinds_ starts_ numbers_ bytes_ l2 r3 r4 l1 r11))))
      else
        some (.inl (l1 + 1, l2 + 1, tokens_, kinds_, starts_, numbers_))))
    else
      some (.inr (tokens_, kinds_, starts_, numbers_))
  else
    some (.inr (tokens_, kinds_, starts_, numbers_))
def fj_rd_split_89 (length_ : Int32) (tokens_ : Int32) (kinds_ : Nat → Int32) (starts_ : Nat → Int32) (numbers_ : Nat → Int32) : Option ((Int32 × (Nat → Int32) × (Nat → Int32) × (Nat → Int32))) :=
  (f_rd_addToken tokens_ kinds_ starts_ numbers_ 0 length_ 0).bind (un4 fun tokens_22 kinds_23 starts_24 numbers_25 =>
  some (tokens_22, kinds_23, starts_24, numbers_25))
def f_rd_split (length_ : Int32) (tokens_ : Int32) (kinds_ : Nat → Int32) (starts_ : Nat → Int32) (numbers_ : Nat → Int32) (bytes_ : Nat → Int32) : Option ((Int32 × (Nat → Int32) × (Nat → Int32) × (Nat → Int32))) :=
  (itr (un6 (fb_rd_split_9 length_ bytes_)) KF (0, 0, 0, kinds_, starts_, numbers_)).bind
    (un4 fun tokens_18 kinds_19 starts_20 numbers_21 =>
      fj_rd_split_89 length_ tokens_18 kinds_19 starts_20 numbers_21
    )
def f_law_clear (codeLength_ : Int32) (size_ : Int32) (take_ : Int32) (fee_ : Int32) : Option ((Int32 × Int32 × Int32 × Int32)) :=
  some (0, 0, (-1), (-1))
def fj_law_hasAlready_14 (fee_ : Int32) (l1 : Int32) : Option (Int32) :=
  if l1 = 21 then
    if fee_ = (-1) then
      some 0
    else
      some 1
  else
    some 0
def f_law_hasAlready (take_ : Int32) (fee_ : Int32) (l1 : Int32) : Option (Int32) :=
  if l1 = 20 then
    if take_ = (-1) then
      fj_law_hasAlready_14 fee_ l1
    else
      some 1
  else
    fj_law_hasAlready_14 fee_ l1
def f_rd_faultOfClause (kind_ : Int32) (draft_size_ : Int32) (draft_take_ : Int32) (draft_fee_ : Int32) : Option (Int32) :=
  if kind_ < 20 then
    some 1
  else
    if 23 < kind_ then
      some 1
    else
      (f_law_hasAlready draft_take_ draft_fee_ kind_).bind (fun r1 =>
      if r1 = 0 then
        if draft_size_ < 20 then
          some 0
        else
          some 6
      else
        some 4)
def f_rd_fail (fault_ : Int32) (place_ : Int32) (at_ : Int32) (starts_ : Nat → Int32) (l1 : Int32) : Option ((Int32 × Int32)) :=
  if fault_ = 0 then
    if inb at_ 301 then
      some (l1, starts_ (ix at_))
    else none
  else
    some (fault_, place_)
def f_rd_step (tokens_ : Int32) (fault_ : Int32) (at_ : Int32) (kind_ : Int32) (kinds_ : Nat → Int32) : Option ((Int32 × Int32)) :=
  if fault_ = 0 then
    if (at_ + 1) < tokens_ then
      if inb (at_ + 1) 301 then
        some (at_ + 1, kinds_ (ix (at_ + 1)))
      else none
    else
      some (at_, kind_)
  else
    some (at_, kind_)
def fj_rd_readNumber_36 (tokens_ : Int32) (fault_ : Int32) (place_ : Int32) (at_ : Int32) (kind_ : Int32) (kinds_ : Nat → Int32) (l2 : Int32) : Option ((Int32 × Int32 × Int32 × Int32 × Int32)) :=
  (f_rd_step tokens_ fault_ at_ kind_ kinds_).bind (un2 fun at_2 kind_3 =>
  some (l2, fault_, place_, at_2, kind_3))
def f_rd_readNumber (tokens_ : Int32) (fault_ : Int32) (place_ : Int32) (at_ : Int32) (kind_ : Int32) (numbers_ : Nat → Int32) (kinds_ : Nat → Int32) (starts_ : Nat → Int32) (l1 : Int32) : Option ((Int32 × Int32 × Int32 × Int32 × Int32)) :=
  if inb at_ 301 then
    if kind_ = 2 then
      if l1 < (numbers_ (ix at_)) then
        (f_rd_fail fault_ place_ at_ starts_ 2).bind (un2 fun fault_5 place_6 =>
        fj_rd_readNumber_36 tokens_ fault_5 place_6 at_ kind_ kinds_ (numbers_ (ix at_)))
      else
        fj_rd_readNumber_36 tokens_ fault_ place_ at_ kind_ kinds_ (numbers_ (ix at_))
    else
      (f_rd_fail fault_ place_ at_ starts_ 1).bind (un2 fun fault_8 place_9 =>
      fj_rd_readNumber_36 tokens_ fault_8 place_9 at_ kind_ kinds_ (numbers_ (ix at_)))
  else none
def fj_rd_expect_13 (tokens_ : Int32) (fault_ : Int32) (place_ : Int32) (at_ : Int32) (kind_ : Int32) (kinds_ : Nat → Int32) : Option ((Int32 × Int32 × Int32 × Int32)) :=
  (f_rd_step tokens_ fault_ at_ kind_ kinds_).bind (un2 fun at_1 kind_2 =>
  some (fault_, place_, at_1, kind_2))
def f_rd_expect (tokens_ : Int32) (fault_ : Int32) (place_ : Int32) (at_ : Int32) (kind_ : Int32) (kinds_ : Nat → Int32) (starts_ : Nat → Int32) (l1 : Int32) : Option ((Int32 × Int32 × Int32 × Int32)) :=
  if kind_ = l1 then
    fj_rd_expect_13 tokens_ fault_ place_ at_ kind_ kinds_
  else
    (f_rd_fail fault_ place_ at_ starts_ 1).bind (un2 fun fault_4 place_5 =>
    fj_rd_expect_13 tokens_ fault_4 place_5 at_ kind_ kinds_)
def f_law_addClause (size_ : Int32) (take_ : Int32) (fee_ : Int32) (kinds_ : Nat → Int32) (from_ : Nat → Int32) (to_ : Nat → Int32) (l1 : Int32) (l2 : Int32) (l3 : Int32) : Option ((Int32 × Int32 × Int32 × (Nat → Int32) × (Nat → Int32) × (Nat → Int32))) :=
  if size_ < 20 then
    if inb size_ 20 then
      bnd (upd kinds_ (ix size_) l1 : Nat → Int32) fun kinds_2 =>
      if inb size_ 20 then
        bnd (upd from_ (ix size_) l2 : Nat → Int32) fun from_4 =>
        if inb size_ 20 then
          bnd (upd to_ (ix size_) l3 : Nat → Int32) fun to_6 =>
          if l1 = 20 then
            some (size_ + 1, size_, fee_, kinds_2, from_4, to_6)
          else
            if l1 = 21 then
              some (size_ + 1, take_, size_, kinds_2, from_4, to_6)
            else
              some (size_ + 1, take_, fee_, kinds_2, from_4, to_6)
        else none
      else none
    else none
  else
    some (size_, take_, fee_, kinds_, from_, to_)
def f_rd_readGo (tokens_ : Int32) (fault_ : Int32) (place_ : Int32) (at_ : Int32) (kind_ : Int32) (kinds_ : Nat → Int32) (numbers_ : Nat → Int32) (starts_ : Nat → Int32) (draft_size_ : Int32) (draft_take_ : Int32) (draft_fee_ : Int32) (draft_kinds_ : Nat → Int32) (draft_from_ : Nat → Int32) (draft_to_ : Nat → Int32) : Option ((Int32 × Int32 × Int32 × Int32 × Int32 × Int32 × Int32 × (Nat → Int32) × (Nat → Int32) × (Nat → Int32))) :=
  (f_rd_step tokens_ fault_ at_ kind_ kinds_).bind (un2 fun at_1 kind_2 =>
  (f_rd_readNumber tokens_ fault_ place_ at_1 kind_2 numbers_ kinds_ starts_ 7).bind (un5 fun r3 fault_4 place_5 at_6 kind_7 =>
  (f_rd_expect tokens_ fault_4 place_5 at_6 kind_7 kinds_ starts_ 24).bind (un4 fun fault_8 place_9 at_10 kind_11 =>
  (f_rd_readNumber tokens_ fault_8 place_9 at_10 kind_11 numbers_ kinds_ starts_ 2).bind (un5 fun r12 fault_13 place_14 at_15 kind_16 =>
  (f_rd_expect tokens_ fault_13 place_14 at_15 kind_16 kinds_ starts_ 14).bind (un4 fun fault_17 place_18 at_19 kind_20 =>
  (f_law_addClause draft_size_ draft_take_ draft_fee_ draft_kinds_ draft_from_ draft_to_ 23 r3 r12).bind (un6 fun draft_size_21 draft_take_22 draft_fee_23 draft_kinds_24 draft_from_25 draft_to_26 =>
  some (fault_17, place_18, at_19, kind_20, draft_size_21, draft_take_22, draft_fee_23, draft_kinds_24, draft_from_25, draft_to_26)))))))
def fj_rd_opens_11 (tokens_ : Int32) (fault_ : Int32) (place_ : Int32) (at_ : Int32) (kind_ : Int32) (kinds_ : Nat → Int32) : Option ((Int32 × Int32 × Int32 × Int32 × Int32)) :=
  (f_rd_step tokens_ fault_ at_ kind_ kinds_).bind (un2 fun at_1 kind_2 =>
  if fault_ = 0 then
    some (1, fault_, place_, at_1, kind_2)
  else
    some (0, fault_, place_, at_1, kind_2))
def f_rd_opens (tokens_ : Int32) (fault_ : Int32) (place_ : Int32) (at_ : Int32) (kind_ : Int32) (kinds_ : Nat → Int32) (starts_ : Nat → Int32) (l1 : Int32) : Option ((Int32 × Int32 × Int32 × Int32 × Int32)) :=
  if l1 < 8 then
    fj_rd_opens_11 tokens_ fault_ place_ at_ kind_ kinds_
  else
    (f_rd_fail fault_ place_ at_ starts_ 3).bind (un2 fun fault_4 place_5 =>
    fj_rd_opens_11 tokens_ fault_4 place_5 at_ kind_ kinds_)
def f_law_emit (codeLength_ : Int32) (code_ : Nat → Int32) (l1 : Int32) : Option ((Int32 × (Nat → Int32))) :=
  if codeLength_ < 300 then
    if inb codeLength_ 300 then
      bnd (upd code_ (ix codeLength_) l1 : Nat → Int32) fun code_2 =>
      some (codeLength_ + 1, code_2)
    else none
  else
    some (codeLength_, code_)
def fj_rd_readName_48 (tokens_ : Int32) (fault_ : Int32) (place_ : Int32) (at_ : Int32) (kind_ : Int32) (draft_codeLength_ : Int32) (kinds_ : Nat → Int32) (draft_code_ : Nat → Int32) : Option ((Int32 × Int32 × Int32 × Int32 × Int32 × (Nat → Int32))) :=
  (f_law_emit draft_codeLength_ draft_code_ (20000 + kind_)).bind (un2 fun draft_codeLength_3 draft_code_4 =>
  (f_rd_step tokens_ fault_ at_ kind_ kinds_).bind (un2 fun at_5 kind_6 =>
  some (fault_, place_, at_5, kind_6, draft_codeLength_3, draft_code_4)))
def fj_rd_readName_18 (tokens_ : Int32) (fault_ : Int32) (place_ : Int32) (at_ : Int32) (kind_ : Int32) (starts_ : Nat → Int32) (draft_codeLength_ : Int32) (kinds_ : Nat → Int32) (draft_code_ : Nat → Int32) : Option ((Int32 × Int32 × Int32 × Int32 × Int32 × (Nat → Int32))) :=
  (f_rd_fail fault_ place_ at_ starts_ 1).bind (un2 fun fault_1 place_2 =>
  fj_rd_readName_48 tokens_ fault_1 place_2 at_ kind_ draft_codeLength_ kinds_ draft_code_)
def f_rd_readName (tokens_ : Int32) (fault_ : Int32) (place_ : Int32) (at_ : Int32) (kind_ : Int32) (allowedNames_ : Int32) (starts_ : Nat → Int32) (draft_codeLength_ : Int32) (kinds_ : Nat → Int32) (draft_code_ : Nat → Int32) : Option ((Int32 × Int32 × Int32 × Int32 × Int32 × (Nat → Int32))) :=
  if kind_ < 28 then
    fj_rd_readName_18 tokens_ fault_ place_ at_ kind_ starts_ draft_codeLength_ kinds_ draft_code_
  else
    if 35 < kind_ then
      fj_rd_readName_18 tokens_ fault_ place_ at_ kind_ starts_ draft_codeLength_ kinds_ draft_code_
    else
      if ((allowedNames_ >>> ((kind_ - 28) &&& 31)) &&& 1) = 0 then
        (f_rd_fail fault_ place_ at_ starts_ 5).bind (un2 fun fault_10 place_11 =>
        fj_rd_readName_48 tokens_ fault_10 place_11 at_ kind_ draft_codeLength_ kinds_ draft_code_)
      else
        fj_rd_readName_48 tokens_ fault_ place_ at_ kind_ draft_codeLength_ kinds_ draft_code_
def fj_rd_readSum_39_7 (F_rd_readSum : Int32 → Int32 → Int32 → Int32 → Int32 → Int32 → (Nat → Int32) → Int32 → (Nat → Int32) → (Nat → Int32) → (Nat → Int32) → Int32 → Option ((Int32 × Int32 × Int32 × Int32 × Int32 × (Nat → Int32)))) (F_rd_readProduct : Int32 → Int32 → Int32 → Int32 → Int32 → Int32 → (Nat → Int32) → Int32 → (Nat → Int32) → (Nat → Int32) → (Nat → Int32) → Int32 → Option ((Int32 × Int32 × Int32 × Int32 × Int32 × (Nat → Int32)))) (F_rd_readOne : Int32 → Int32 → Int32 → Int32 → Int32 → Int32 → (Nat → Int32) → Int32 → (Nat → Int32) → (Nat → Int32) → (Nat → Int32) → Int32 → Option ((Int32 × Int32 × Int32 × Int32 × Int32 × (Nat → Int32)))) (tokens_ : Int32) (fault_ : Int32) (place_ : Int32) (at_ : Int32) (kind_ : Int32) (allowedNames_ : Int32) (starts_ : Nat → Int32) (draft_codeLength_ : Int32) (kinds_ : Nat → Int32) (numbers_ : Nat → Int32) (draft_code_ : Nat → Int32) (l1 : Int32) (l2 : Int32) : Option ((Int32 × Int32 × Int32 × Int32 × Int32 × Int32 × (Nat → Int32)) ⊕ (Int32 × Int32 × Int32 × Int32 × Int32 × (Nat → Int32))) :=
  (f_rd_step tokens_ fault_ at_ kind_ kinds_).bind (un2 fun at_7 kind_8 =>
  (F_rd_readProduct tokens_ fault_ place_ at_7 kind_8 allowedNames_ starts_ draft_codeLength_ kinds_ numbers_ draft_code_ l1).bind (un6 fun fault_9 place_10 at_11 kind_12 draft_codeLength_13 draft_code_14 =>
  (f_law_emit draft_codeLength_13 draft_code_14 (20000 + kind_)).bind (un2 fun draft_codeLength_15 draft_code_16 =>
  some (.inl (l2 + 1, fault_9, place_10, at_11, kind_12, draft_codeLength_15, draft_code_16)))))
def fb_rd_readSum_7 (F_rd_readSum : Int32 → Int32 → Int32 → Int32 → Int32 → Int32 → (Nat → Int32) → Int32 → (Nat → Int32) → (Nat → Int32) → (Nat → Int32) → Int32 → Option ((Int32 × Int32 × Int32 × Int32 × Int32 × (Nat → Int32)))) (F_rd_readProduct : Int32 → Int32 → Int32 → Int32 → Int32 → Int32 → (Nat → Int32) → Int32 → (Nat → Int32) → (Nat → Int32) → (Nat → Int32) → Int32 → Option ((Int32 × Int32 × Int32 × Int32 × Int32 × (Nat → Int32)))) (F_rd_readOne : Int32 → Int32 → Int32 → Int32 → Int32 → Int32 → (Nat → Int32) → Int32 → (Nat → Int32) → (Nat → Int32) → (Nat → Int32) → Int32 → Option ((Int32 × Int32 × Int32 × Int32 × Int32 × (Nat → Int32)))) (tokens_ : Int32) (allowedNames_ : Int32) (starts_ : Nat → Int32) (kinds_ : Nat → Int32) (numbers_ : Nat → Int32) (l1 : Int32) (l2 : Int32) (fault_ : Int32) (place_ : Int32) (at_ : Int32) (kind_ : Int32) (draft_codeLength_ : Int32) (draft_code_ : Nat → Int32) : Option ((Int32 × Int32 × Int32 × Int32 × Int32 × Int32 × (Nat → Int32)) ⊕ (Int32 × Int32 × Int32 × Int32 × Int32 × (Nat → Int32))) :=
  if l2 < 300 then
    if fault_ = 0 then
      if kind_ = 7 then
        fj_rd_readSum_39_7 F_rd_readSum F_rd_readProduct F_rd_readOne tokens_ fault_ place_ at_ kind_ allowedNames_ starts_ draft_codeLength_ kinds_ numbers_ draft_code_ l1 l2
      else
        if kind_ = 8 then
          fj_rd_readSum_39_7 F_rd_readSum F_rd_readProduct F_rd_readOne tokens_ fault_ place_ at_ kind_ allowedNames_ starts_ draft_codeLength_ kinds_ numbers_ draft_code_ l1 l2
        else
          some (.inr (fault_, place_, at_, kind_, draft_codeLength_, draft_code_))
    else
      some (.inr (fault_, place_, at_, kind_, draft_codeLength_, draft_code_))
  else
    some (.inr (fault_, place_, at_, kind_, draft_codeLength_, draft_code_))
def fR_rd_readSum (F_rd_readSum : Int32 → Int32 → Int32 → Int32 → Int32 → Int32 → (Nat → Int32) → Int32 → (Nat → Int32) → (Nat → Int32) → (Nat → Int32) → Int32 → Option ((Int32 × Int32 × Int32 × Int32 × Int32 × (Nat → Int32)))) (F_rd_readProduct : Int32 → Int32 → Int32 → Int32 → Int32 → Int32 → (Nat → Int32) → Int32 → (Nat → Int32) → (Nat → Int32) → (Nat → Int32) → Int32 → Option ((Int32 × Int32 × Int32 × Int32 × Int32 × (Nat → Int32)))) (F_rd_readOne : Int32 → Int32 → Int32 → Int32 → Int32 → Int32 → (Nat → Int32) → Int32 → (Nat → Int32) → (Nat → Int32) → (Nat → Int32) → Int32 → Option ((Int32 × Int32 × Int32 × Int32 × Int32 × (Nat → Int32)))) (tokens_ : Int32) (fault_ : Int32) (place_ : Int32) (at_ : Int32) (kind_ : Int32) (allowedNames_ : Int32) (starts_ : Nat → Int32) (draft_codeLength_ : Int32) (kinds_ : Nat → Int32) (numbers_ : Nat → Int32) (draft_code_ : Nat → Int32) (l1 : Int32) : Option ((Int32 × Int32 × Int32 × Int32 × Int32 × (Nat → Int32))) :=
  (F_rd_readProduct tokens_ fault_ place_ at_ kind_ allowedNames_ starts_ draft_codeLength_ kinds_ numbers_ draft_code_ l1).bind (un6 fun fault_1 place_2 at_3 kind_4 draft_codeLength_5 draft_code_6 =>
  (itr (un7 (fb_rd_readSum_7 F_rd_readSum F_rd_readProduct F_rd_readOne tokens_ allowedNames_ starts_ kinds_ numbers_ l1)) KF (0, fault_1, place_2, at_3, kind_4, draft_codeLength_5, draft_code_6)).bind
    (un6 fun fault_20 place_21 at_22 kind_23 draft_codeLength_24 draft_code_25 =>
      some (fault_20, place_21, at_22, kind_23, draft_codeLength_24, draft_code_25)
    ))
def fb_rd_readProduct_7 (F_rd_readSum : Int32 → Int32 → Int32 → Int32 → Int32 → Int32 → (Nat → Int32) → Int32 → (Nat → Int32) → (Nat → Int32) → (Nat → Int32) → Int32 → Option ((Int32 × Int32 × Int32 × Int32 × Int32 × (Nat → Int32)))) (F_rd_readProduct : Int32 → Int32 → Int32 → Int32 → Int32 → Int32 → (Nat → Int32) → Int32 → (Nat → Int32) → (Nat → Int32) → (Nat → Int32) → Int32 → Option ((Int32 × Int32 × Int32 × Int32 × Int32 × (Nat → Int32)))) (F_rd_readOne : Int32 → Int32 → Int32 → Int32 → Int32 → Int32 → (Nat → Int32) → Int32 → (Nat → Int32) → (Nat → Int32) → (Nat → Int32) → Int32 → Option ((Int32 × Int32 × Int32 × Int32 × Int32 × (Nat → Int32)))) (tokens_ : Int32) (allowedNames_ : Int32) (starts_ : Nat → Int32) (kinds_ : Nat → Int32) (numbers_ : Nat → Int32) (l1 : Int32) (l2 : Int32) (fault_ : Int32) (place_ : Int32) (at_ : Int32) (kind_ : Int32) (draft_codeLength_ : Int32) (draft_code_ : Nat → Int32) : Option ((Int32 × Int32 × Int32 × Int32 × Int32 × Int32 × (Nat → Int32)) ⊕ (Int32 × Int32 × Int32 × Int32 × Int32 × (Nat → Int32))) :=
  if l2 < 300 then
    if fault_ = 0 then
      if kind_ < 9 then
        some (.inr (fault_, place_, at_, kind_, draft_codeLength_, draft_code_))
      else
        if 11 < kind_ then
          some (.inr (fault_, place_, at_, kind_, draft_codeLength_, draft_code_))
        else
          (f_rd_step tokens_ fault_ at_ kind_ kinds_).bind (un2 fun at_7 kind_8 =>
          (F_rd_readOne tokens_ fault_ place_ at_7 kind_8 allowedNames_ starts_ draft_codeLength_ kinds_ numbers_ draft_code_ l1).bind (un6 fun fault_9 place_10 at_11 kind_12 draft_codeLength_13 draft_code_14 =>
          (f_law_emit draft_codeLength_13 draft_code_14 (20000 + kind_)).bind (un2 fun draft_codeLength_15 draft_code_16 =>
          some (.inl (l2 + 1, fault_9, place_10, at_11, kind_12, draft_codeLength_15, draft_code_16)))))
    else
      some (.inr (fault_, place_, at_, kind_, draft_codeLength_, draft_code_))
  else
    some (.inr (fault_, place_, at_, kind_, draft_codeLength_, draft_code_))
def fR_rd_readProduct (F_rd_readSum : Int32 → Int32 → Int32 → Int32 → Int32 → Int32 → (Nat → Int32) → Int32 → (Nat → Int32) → (Nat → Int32) → (Nat → Int32) → Int32 → Option ((Int32 × Int32 × Int32 × Int32 × Int32 × (Nat → Int32)))) (F_rd_readProduct : Int32 → Int32 → Int32 → Int32 → Int32 → Int32 → (Nat → Int32) → Int32 → (Nat → Int32) → (Nat → Int32) → (Nat → Int32) → Int32 → Option ((Int32 × Int32 × Int32 × Int32 × Int32 × (Nat → Int32)))) (F_rd_readOne : Int32 → Int32 → Int32 → Int32 → Int32 → Int32 → (Nat → Int32) → Int32 → (Nat → Int32) → (Nat → Int32) → (Nat → Int32) → Int32 → Option ((Int32 × Int32 × Int32 × Int32 × Int32 × (Nat → Int32)))) (tokens_ : Int32) (fault_ : Int32) (place_ : Int32) (at_ : Int32) (kind_ : Int32) (allowedNames_ : Int32) (starts_ : Nat → Int32) (draft_codeLength_ : Int32) (kinds_ : Nat → Int32) (numbers_ : Nat → Int32) (draft_code_ : Nat → Int32) (l1 : Int32) : Option ((Int32 × Int32 × Int32 × Int32 × Int32 × (Nat → Int32))) :=
  (F_rd_readOne tokens_ fault_ place_ at_ kind_ allowedNames_ starts_ draft_codeLength_ kinds_ numbers_ draft_code_ l1).bind (un6 fun fault_1 place_2 at_3 kind_4 draft_codeLength_5 draft_code_6 =>
  (itr (un7 (fb_rd_readProduct_7 F_rd_readSum F_rd_readProduct F_rd_readOne tokens_ allowedNames_ starts_ kinds_ numbers_ l1)) KF (0, fault_1, place_2, at_3, kind_4, draft_codeLength_5, draft_code_6)).bind
    (un6 fun fault_20 place_21 at_22 kind_23 draft_codeLength_24 draft_code_25 =>
      some (fault_20, place_21, at_22, kind_23, draft_codeLength_24, draft_code_25)
    ))
def fR_rd_readOne (F_rd_readSum : Int32 → Int32 → Int32 → Int32 → Int32 → Int32 → (Nat → Int32) → Int32 → (Nat → Int32) → (Nat → Int32) → (Nat → Int32) → Int32 → Option ((Int32 × Int32 × Int32 × Int32 × Int32 × (Nat → Int32)))) (F_rd_readProduct : Int32 → Int32 → Int32 → Int32 → Int32 → Int32 → (Nat → Int32) → Int32 → (Nat → Int32) → (Nat → Int32) → (Nat → Int32) → Int32 → Option ((Int32 × Int32 × Int32 × Int32 × Int32 × (Nat → Int32)))) (F_rd_readOne : Int32 → Int32 → Int32 → Int32 → Int32 → Int32 → (Nat → Int32) → Int32 → (Nat → Int32) → (Nat → Int32) → (Nat → Int32) → Int32 → Option ((Int32 × Int32 × Int32 × Int32 × Int32 × (Nat → Int32)))) (tokens_ : Int32) (fault_ : Int32) (place_ : Int32) (at_ : Int32) (kind_ : Int32) (allowedNames_ : Int32) (starts_ : Nat → Int32) (draft_codeLength_ : Int32) (kinds_ : Nat → Int32) (numbers_ : Nat → Int32) (draft_code_ : Nat → Int32) (l1 : Int32) : Option ((Int32 × Int32 × Int32 × Int32 × Int32 × (Nat → Int32))) :=
  if kind_ = 2 then
    (f_rd_readNumber tokens_ fault_ place_ at_ kind_ numbers_ kinds_ starts_ 9999).bind (un5 fun r42 fault_43 place_44 at_45 kind_46 =>
    (f_law_emit draft_codeLength_ draft_code_ r42).bind (un2 fun draft_codeLength_47 draft_code_48 =>
    some (fault_43, place_44, at_45, kind_46, draft_codeLength_47, draft_code_48)))
  else
    if kind_ = 12 then
      (f_rd_opens tokens_ fault_ place_ at_ kind_ kinds_ starts_ l1).bind (un5 fun r24 fault_25 place_26 at_27 kind_28 =>
      if r24 = 0 then
        some (fault_25, place_26, at_27, kind_28, draft_codeLength_, draft_code_)
      else
        (F_rd_readSum tokens_ fault_25 place_26 at_27 kind_28 allowedNames_ starts_ draft_codeLength_ kinds_ numbers_ draft_code_ (l1 + 1)).bind (un6 fun fault_29 place_30 at_31 kind_32 draft_codeLength_33 draft_code_34 =>
        (f_rd_expect tokens_ fault_29 place_30 at_31 kind_32 kinds_ starts_ 13).bind (un4 fun fault_35 place_36 at_37 kind_38 =>
        some (fault_35, place_36, at_37, kind_38, draft_codeLength_33, draft_code_34))))
    else
      if kind_ = 8 then
        (f_rd_opens tokens_ fault_ place_ at_ kind_ kinds_ starts_ l1).bind (un5 fun r8 fault_9 place_10 at_11 kind_12 =>
        if r8 = 0 then
          some (fault_9, place_10, at_11, kind_12, draft_codeLength_, draft_code_)
        else
          (F_rd_readOne tokens_ fault_9 place_10 at_11 kind_12 allowedNames_ starts_ draft_codeLength_ kinds_ numbers_ draft_code_ (l1 + 1)).bind (un6 fun fault_13 place_14 at_15 kind_16 draft_codeLength_17 draft_code_18 =>
          (f_law_emit draft_codeLength_17 draft_code_18 20017).bind (un2 fun draft_codeLength_19 draft_code_20 =>
          some (fault_13, place_14, at_15, kind_16, draft_codeLength_19, draft_code_20))))
      else
        (f_rd_readName tokens_ fault_ place_ at_ kind_ allowedNames_ starts_ draft_codeLength_ kinds_ draft_code_).bind (un6 fun fault_1 place_2 at_3 kind_4 draft_codeLength_5 draft_code_6 =>
        some (fault_1, place_2, at_3, kind_4, draft_codeLength_5, draft_code_6))
def FG_rd_readSum : Nat → (Int32 → Int32 → Int32 → Int32 → Int32 → Int32 → (Nat → Int32) → Int32 → (Nat → Int32) → (Nat → Int32) → (Nat → Int32) → Int32 → Option ((Int32 × Int32 × Int32 × Int32 × Int32 × (Nat → Int32)))) × (Int32 → Int32 → Int32 → Int32 → Int32 → Int32 → (Nat → Int32) → Int32 → (Nat → Int32) → (Nat → Int32) → (Nat → Int32) → Int32 → Option ((Int32 × Int32 × Int32 × Int32 × Int32 × (Nat → Int32)))) × (Int32 → Int32 → Int32 → Int32 → Int32 → Int32 → (Nat → Int32) → Int32 → (Nat → Int32) → (Nat → Int32) → (Nat → Int32) → Int32 → Option ((Int32 × Int32 × Int32 × Int32 × Int32 × (Nat → Int32))))
  | 0 => ((fun _ _ _ _ _ _ _ _ _ _ _ _ => none), (fun _ _ _ _ _ _ _ _ _ _ _ _ => none), (fun _ _ _ _ _ _ _ _ _ _ _ _ => none))
  | n + 1 => ((fR_rd_readSum (FG_rd_readSum n).1 (FG_rd_readSum n).2.1 (FG_rd_readSum n).2.2), (fR_rd_readProduct (FG_rd_readSum n).1 (FG_rd_readSum n).2.1 (FG_rd_readSum n).2.2), (fR_rd_readOne (FG_rd_readSum n).1 (FG_rd_readSum n).2.1 (FG_rd_readSum n).2.2))
def f_rd_readSum (tokens_ : Int32) (fault_ : Int32) (place_ : Int32) (at_ : Int32) (kind_ : Int32) (allowedNames_ : Int32) (starts_ : Nat → Int32) (draft_codeLength_ : Int32) (kinds_ : Nat → Int32) (numbers_ : Nat → Int32) (draft_code_ : Nat → Int32) (l1 : Int32) : Option ((Int32 × Int32 × Int32 × Int32 × Int32 × (Nat → Int32))) := (FG_rd_readSum 44).1 tokens_ fault_ place_ at_ kind_ allowedNames_ starts_ draft_codeLength_ kinds_ numbers_ draft_code_ l1
def f_rd_readProduct (tokens_ : Int32) (fault_ : Int32) (place_ : Int32) (at_ : Int32) (kind_ : Int32) (allowedNames_ : Int32) (starts_ : Nat → Int32) (draft_codeLength_ : Int32) (kinds_ : Nat → Int32) (numbers_ : Nat → Int32) (draft_code_ : Nat → Int32) (l1 : Int32) : Option ((Int32 × Int32 × Int32 × Int32 × Int32 × (Nat → Int32))) := (FG_rd_readSum 44).2.1 tokens_ fault_ place_ at_ kind_ allowedNames_ starts_ draft_codeLength_ kinds_ numbers_ draft_code_ l1
def f_rd_readOne (tokens_ : Int32) (fault_ : Int32) (place_ : Int32) (at_ : Int32) (kind_ : Int32) (allowedNames_ : Int32) (starts_ : Nat → Int32) (draft_codeLength_ : Int32) (kinds_ : Nat → Int32) (numbers_ : Nat → Int32) (draft_code_ : Nat → Int32) (l1 : Int32) : Option ((Int32 × Int32 × Int32 × Int32 × Int32 × (Nat → Int32))) := (FG_rd_readSum 44).2.2 tokens_ fault_ place_ at_ kind_ allowedNames_ starts_ draft_codeLength_ kinds_ numbers_ draft_code_ l1
def fj_rd_compares_11 (l0 : Int32) : Option (Int32) :=
  if l0 = 15 then
    some 1
  else
    if l0 = 16 then
      some 1
    else
      some 0
def f_rd_compares (l0 : Int32) : Option (Int32) :=
  if l0 < 3 then
    fj_rd_compares_11 l0
  else
    if 6 < l0 then
      fj_rd_compares_11 l0
    else
      some 1
def fj_rd_readAsk_57 (F_rd_readAsk : Int32 → Int32 → Int32 → Int32 → Int32 → Int32 → (Nat → Int32) → Int32 → (Nat → Int32) → (Nat → Int32) → (Nat → Int32) → Int32 → Option ((Int32 × Int32 × Int32 × Int32 × Int32 × (Nat → Int32)))) (tokens_ : Int32) (fault_ : Int32) (place_ : Int32) (at_ : Int32) (kind_ : Int32) (allowedNames_ : Int32) (starts_ : Nat → Int32) (draft_codeLength_ : Int32) (kinds_ : Nat → Int32) (numbers_ : Nat → Int32) (draft_code_ : Nat → Int32) (l1 : Int32) (l2 : Int32) : Option ((Int32 × Int32 × Int32 × Int32 × Int32 × (Nat → Int32))) :=
  (f_rd_step tokens_ fault_ at_ kind_ kinds_).bind (un2 fun at_8 kind_9 =>
  (f_rd_readSum tokens_ fault_ place_ at_8 kind_9 allowedNames_ starts_ draft_codeLength_ kinds_ numbers_ draft_code_ l1).bind (un6 fun fault_10 place_11 at_12 kind_13 draft_codeLength_14 draft_code_15 =>
  (f_law_emit draft_codeLength_14 draft_code_15 (20000 + l2)).bind (un2 fun draft_codeLength_16 draft_code_17 =>
  some (fault_10, place_11, at_12, kind_13, draft_codeLength_16, draft_code_17))))
def fR_rd_readAsk (F_rd_readAsk : Int32 → Int32 → Int32 → Int32 → Int32 → Int32 → (Nat → Int32) → Int32 → (Nat → Int32) → (Nat → Int32) → (Nat → Int32) → Int32 → Option ((Int32 × Int32 × Int32 × Int32 × Int32 × (Nat → Int32)))) (tokens_ : Int32) (fault_ : Int32) (place_ : Int32) (at_ : Int32) (kind_ : Int32) (allowedNames_ : Int32) (starts_ : Nat → Int32) (draft_codeLength_ : Int32) (kinds_ : Nat → Int32) (numbers_ : Nat → Int32) (draft_code_ : Nat → Int32) (l1 : Int32) : Option ((Int32 × Int32 × Int32 × Int32 × Int32 × (Nat → Int32))) :=
  if kind_ = 27 then
    (f_rd_opens tokens_ fault_ place_ at_ kind_ kinds_ starts_ l1).bind (un5 fun r26 fault_27 place_28 at_29 kind_30 =>
    if r26 = 0 then
      some (fault_27, place_28, at_29, kind_30, draft_codeLength_, draft_code_)
    else
      (F_rd_readAsk tokens_ fault_27 place_28 at_29 kind_30 allowedNames_ starts_ draft_codeLength_ kinds_ numbers_ draft_code_ (l1 + 1)).bind (un6 fun fault_31 place_32 at_33 kind_34 draft_codeLength_35 draft_code_36 =>
      (f_law_emit draft_codeLength_35 draft_code_36 20027).bind (un2 fun draft_codeLength_37 draft_code_38 =>
      some (fault_31, place_32, at_33, kind_34, draft_codeLength_37, draft_code_38))))
  else
    (f_rd_readSum tokens_ fault_ place_ at_ kind_ allowedNames_ starts_ draft_codeLength_ kinds_ numbers_ draft_code_ l1).bind (un6 fun fault_1 place_2 at_3 kind_4 draft_codeLength_5 draft_code_6 =>
    (f_rd_compares kind_4).bind (fun r7 =>
    if r7 = 0 then
      (f_rd_fail fault_1 place_2 at_3 starts_ 1).bind (un2 fun fault_21 place_22 =>
      fj_rd_readAsk_57 F_rd_readAsk tokens_ fault_21 place_22 at_3 kind_4 allowedNames_ starts_ draft_codeLength_5 kinds_ numbers_ draft_code_6 l1 kind_4)
    else
      fj_rd_readAsk_57 F_rd_readAsk tokens_ fault_1 place_2 at_3 kind_4 allowedNames_ starts_ draft_codeLength_5 kinds_ numbers_ draft_code_6 l1 kind_4))
def FG_rd_readAsk : Nat → (Int32 → Int32 → Int32 → Int32 → Int32 → Int32 → (Nat → Int32) → Int32 → (Nat → Int32) → (Nat → Int32) → (Nat → Int32) → Int32 → Option ((Int32 × Int32 × Int32 × Int32 × Int32 × (Nat → Int32))))
  | 0 => (fun _ _ _ _ _ _ _ _ _ _ _ _ => none)
  | n + 1 => (fR_rd_readAsk (FG_rd_readAsk n))
def f_rd_readAsk (tokens_ : Int32) (fault_ : Int32) (place_ : Int32) (at_ : Int32) (kind_ : Int32) (allowedNames_ : Int32) (starts_ : Nat → Int32) (draft_codeLength_ : Int32) (kinds_ : Nat → Int32) (numbers_ : Nat → Int32) (draft_code_ : Nat → Int32) (l1 : Int32) : Option ((Int32 × Int32 × Int32 × Int32 × Int32 × (Nat → Int32))) := (FG_rd_readAsk 11) tokens_ fault_ place_ at_ kind_ allowedNames_ starts_ draft_codeLength_ kinds_ numbers_ draft_code_ l1
def fb_rd_readEither_22 (tokens_ : Int32) (allowedNames_ : Int32) (starts_ : Nat → Int32) (kinds_ : Nat → Int32) (numbers_ : Nat → Int32) (l3 : Int32) (fault_ : Int32) (place_ : Int32) (at_ : Int32) (kind_ : Int32) (draft_codeLength_ : Int32) (draft_code_ : Nat → Int32) : Option ((Int32 × Int32 × Int32 × Int32 × Int32 × Int32 × (Nat → Int32)) ⊕ (Int32 × Int32 × Int32 × Int32 × Int32 × (Nat → Int32))) :=
  if l3 < 300 then
    if fault_ = 0 then
      if kind_ = 26 then
        (f_rd_step tokens_ fault_ at_ kind_ kinds_).bind (un2 fun at_7 kind_8 =>
        (f_rd_readAsk tokens_ fault_ place_ at_7 kind_8 allowedNames_ starts_ draft_codeLength_ kinds_ numbers_ draft_code_ 0).bind (un6 fun fault_9 place_10 at_11 kind_12 draft_codeLength_13 draft_code_14 =>
        (f_law_emit draft_codeLength_13 draft_code_14 20026).bind (un2 fun draft_codeLength_15 draft_code_16 =>
        some (.inl (l3 + 1, fault_9, place_10, at_11, kind_12, draft_codeLength_15, draft_code_16)))))
      else
        some (.inr (fault_, place_, at_, kind_, draft_codeLength_, draft_code_))
    else
      some (.inr (fault_, place_, at_, kind_, draft_codeLength_, draft_code_))
  else
    some (.inr (fault_, place_, at_, kind_, draft_codeLength_, draft_code_))
def fj_rd_readEither_105_4 (tokens_ : Int32) (fault_ : Int32) (place_ : Int32) (at_ : Int32) (kind_ : Int32) (allowedNames_ : Int32) (starts_ : Nat → Int32) (draft_codeLength_ : Int32) (kinds_ : Nat → Int32) (numbers_ : Nat → Int32) (draft_code_ : Nat → Int32) (l2 : Int32) (s0 : Int32) : Option ((Int32 × Int32 × Int32 × Int32 × Int32 × Int32 × Int32 × (Nat → Int32)) ⊕ (Int32 × Int32 × Int32 × Int32 × Int32 × (Nat → Int32))) :=
  if s0 = 0 then
    some (.inl (s0, l2 + 1, fault_, place_, at_, kind_, draft_codeLength_, draft_code_))
  else
    (f_rd_step tokens_ fault_ at_ kind_ kinds_).bind (un2 fun at_26 kind_27 =>
    some (.inl (s0, l2 + 1, fault_, place_, at_26, kind_27, draft_codeLength_, draft_code_)))
def fj_rd_readEither_84_4 (tokens_ : Int32) (fault_ : Int32) (place_ : Int32) (at_ : Int32) (kind_ : Int32) (allowedNames_ : Int32) (starts_ : Nat → Int32) (draft_codeLength_ : Int32) (kinds_ : Nat → Int32) (numbers_ : Nat → Int32) (draft_code_ : Nat → Int32) (l2 : Int32) : Option ((Int32 × Int32 × Int32 × Int32 × Int32 × Int32 × Int32 × (Nat → Int32)) ⊕ (Int32 × Int32 × Int32 × Int32 × Int32 × (Nat → Int32))) :=
  if fault_ = 0 then
    if kind_ = 25 then
      fj_rd_readEither_105_4 tokens_ fault_ place_ at_ kind_ allowedNames_ starts_ draft_codeLength_ kinds_ numbers_ draft_code_ l2 1
    else
      fj_rd_readEither_105_4 tokens_ fault_ place_ at_ kind_ allowedNames_ starts_ draft_codeLength_ kinds_ numbers_ draft_code_ l2 0
  else
    fj_rd_readEither_105_4 tokens_ fault_ place_ at_ kind_ allowedNames_ starts_ draft_codeLength_ kinds_ numbers_ draft_code_ l2 0
def fj_rd_readEither_70_4 (tokens_ : Int32) (fault_ : Int32) (place_ : Int32) (at_ : Int32) (kind_ : Int32) (allowedNames_ : Int32) (starts_ : Nat → Int32) (draft_codeLength_ : Int32) (kinds_ : Nat → Int32) (numbers_ : Nat → Int32) (draft_code_ : Nat → Int32) (l2 : Int32) : Option ((Int32 × Int32 × Int32 × Int32 × Int32 × Int32 × Int32 × (Nat → Int32)) ⊕ (Int32 × Int32 × Int32 × Int32 × Int32 × (Nat → Int32))) :=
  if 0 < l2 then
    (f_law_emit draft_codeLength_ draft_code_ 20025).bind (un2 fun draft_codeLength_29 draft_code_30 =>
    fj_rd_readEither_84_4 tokens_ fault_ place_ at_ kind_ allowedNames_ starts_ draft_codeLength_29 kinds_ numbers_ draft_code_30 l2)
  else
    fj_rd_readEither_84_4 tokens_ fault_ place_ at_ kind_ allowedNames_ starts_ draft_codeLength_ kinds_ numbers_ draft_code_ l2
def fb_rd_readEither_4 (tokens_ : Int32) (allowedNames_ : Int32) (starts_ : Nat → Int32) (kinds_ : Nat → Int32) (numbers_ : Nat → Int32) (l1 : Int32) (l2 : Int32) (fault_ : Int32) (place_ : Int32) (at_ : Int32) (kind_ : Int32) (draft_codeLength_ : Int32) (draft_code_ : Nat → Int32) : Option ((Int32 × Int32 × Int32 × Int32 × Int32 × Int32 × Int32 × (Nat → Int32)) ⊕ (Int32 × Int32 × Int32 × Int32 × Int32 × (Nat → Int32))) :=
  if l2 < 300 then
    if l1 = 0 then
      some (.inr (fault_, place_, at_, kind_, draft_codeLength_, draft_code_))
    else
      (f_rd_readAsk tokens_ fault_ place_ at_ kind_ allowedNames_ starts_ draft_codeLength_ kinds_ numbers_ draft_code_ 0).bind (un6 fun fault_1 place_2 at_3 kind_4 draft_codeLength_5 draft_code_6 =>
      (itr (un7 (fb_rd_readEither_22 tokens_ allowedNames_ starts_ kinds_ numbers_)) KF (0, fault_1, place_2, at_3, kind_4, draft_codeLength_5, draft_code_6)).bind
        (un6 fun fault_20 place_21 at_22 kind_23 draft_codeLength_24 draft_code_25 =>
          fj_rd_readEither_70_4 tokens_ fault_20 place_21 at_22 kind_23 allowedNames_ starts_ draft_codeLength_24 kinds_ numbers_ draft_code_25 l2
        ))
  else
    some (.inr (fault_, place_, at_, kind_, draft_codeLength_, draft_code_))
def f_rd_readEither (tokens_ : Int32) (fault_ : Int32) (place_ : Int32) (at_ : Int32) (kind_ : Int32) (allowedNames_ : Int32) (starts_ : Nat → Int32) (draft_codeLength_ : Int32) (kinds_ : Nat → Int32) (numbers_ : Nat → Int32) (draft_code_ : Nat → Int32) : Option ((Int32 × Int32 × Int32 × Int32 × Int32 × (Nat → Int32))) :=
  (itr (un8 (fb_rd_readEither_4 tokens_ allowedNames_ starts_ kinds_ numbers_)) KF (1, 0, fault_, place_, at_, kind_, draft_codeLength_, draft_code_)).bind
    (un6 fun fault_33 place_34 at_35 kind_36 draft_codeLength_37 draft_code_38 =>
      some (fault_33, place_34, at_35, kind_36, draft_codeLength_37, draft_code_38)
    )
def fj_rd_readRule_48 (tokens_ : Int32) (fault_ : Int32) (place_ : Int32) (at_ : Int32) (kind_ : Int32) (allowedNames_ : Int32) (kinds_ : Nat → Int32) (draft_codeLength_ : Int32) (draft_size_ : Int32) (draft_take_ : Int32) (draft_fee_ : Int32) (starts_ : Nat → Int32) (draft_code_ : Nat → Int32) (draft_kinds_ : Nat → Int32) (draft_from_ : Nat → Int32) (draft_to_ : Nat → Int32) (l1 : Int32) (l2 : Int32) : Option ((Int32 × Int32 × Int32 × Int32 × Int32 × Int32 × Int32 × Int32 × Int32 × (Nat → Int32) × (Nat → Int32) × (Nat → Int32) × (Nat → Int32))) :=
  (f_rd_expect tokens_ fault_ place_ at_ kind_ kinds_ starts_ 14).bind (un4 fun fault_9 place_10 at_11 kind_12 =>
  (f_law_addClause draft_size_ draft_take_ draft_fee_ draft_kinds_ draft_from_ draft_to_ l1 l2 draft_codeLength_).bind (un6 fun draft_size_13 draft_take_14 draft_fee_15 draft_kinds_16 draft_from_17 draft_to_18 =>
  some (fault_9, place_10, at_11, kind_12, allowedNames_, draft_codeLength_, draft_size_13, draft_take_14, draft_fee_15, draft_code_, draft_kinds_16, draft_from_17, draft_to_18)))
def fj_rd_readRule_27 (tokens_ : Int32) (fault_ : Int32) (place_ : Int32) (at_ : Int32) (kind_ : Int32) (allowedNames_ : Int32) (kinds_ : Nat → Int32) (draft_codeLength_ : Int32) (draft_size_ : Int32) (draft_take_ : Int32) (draft_fee_ : Int32) (starts_ : Nat → Int32) (numbers_ : Nat → Int32) (draft_code_ : Nat → Int32) (draft_kinds_ : Nat → Int32) (draft_from_ : Nat → Int32) (draft_to_ : Nat → Int32) (l1 : Int32) (l2 : Int32) (s0 : Int32) : Option ((Int32 × Int32 × Int32 × Int32 × Int32 × Int32 × Int32 × Int32 × Int32 × (Nat → Int32) × (Nat → Int32) × (Nat → Int32) × (Nat → Int32))) :=
  if l1 = 22 then
    (f_rd_readEither tokens_ fault_ place_ at_ kind_ s0 starts_ draft_codeLength_ kinds_ numbers_ draft_code_).bind (un6 fun fault_22 place_23 at_24 kind_25 draft_codeLength_26 draft_code_27 =>
    fj_rd_readRule_48 tokens_ fault_22 place_23 at_24 kind_25 s0 kinds_ draft_codeLength_26 draft_size_ draft_take_ draft_fee_ starts_ draft_code_27 draft_kinds_ draft_from_ draft_to_ l1 l2)
  else
    (f_rd_readSum tokens_ fault_ place_ at_ kind_ s0 starts_ draft_codeLength_ kinds_ numbers_ draft_code_ 0).bind (un6 fun fault_3 place_4 at_5 kind_6 draft_codeLength_7 draft_code_8 =>
    fj_rd_readRule_48 tokens_ fault_3 place_4 at_5 kind_6 s0 kinds_ draft_codeLength_7 draft_size_ draft_take_ draft_fee_ starts_ draft_code_8 draft_kinds_ draft_from_ draft_to_ l1 l2)
def f_rd_readRule (tokens_ : Int32) (fault_ : Int32) (place_ : Int32) (at_ : Int32) (kind_ : Int32) (allowedNames_ : Int32) (kinds_ : Nat → Int32) (draft_codeLength_ : Int32) (draft_size_ : Int32) (draft_take_ : Int32) (draft_fee_ : Int32) (starts_ : Nat → Int32) (numbers_ : Nat → Int32) (draft_code_ : Nat → Int32) (draft_kinds_ : Nat → Int32) (draft_from_ : Nat → Int32) (draft_to_ : Nat → Int32) (l1 : Int32) : Option ((Int32 × Int32 × Int32 × Int32 × Int32 × Int32 × Int32 × Int32 × Int32 × (Nat → Int32) × (Nat → Int32) × (Nat → Int32) × (Nat → Int32))) :=
  (f_rd_step tokens_ fault_ at_ kind_ kinds_).bind (un2 fun at_1 kind_2 =>
  if l1 = 20 then
    fj_rd_readRule_27 tokens_ fault_ place_ at_1 kind_2 allowedNames_ kinds_ draft_codeLength_ draft_size_ draft_take_ draft_fee_ starts_ numbers_ draft_code_ draft_kinds_ draft_from_ draft_to_ l1 draft_codeLength_ 127
  else
    fj_rd_readRule_27 tokens_ fault_ place_ at_1 kind_2 allowedNames_ kinds_ draft_codeLength_ draft_size_ draft_take_ draft_fee_ starts_ numbers_ draft_code_ draft_kinds_ draft_from_ draft_to_ l1 draft_codeLength_ 250)
def fb_rd_readTape_48 (tokens_ : Int32) (kinds_ : Nat → Int32) (starts_ : Nat → Int32) (numbers_ : Nat → Int32) (l1 : Int32) (fault_ : Int32) (place_ : Int32) (at_ : Int32) (kind_ : Int32) (allowedNames_ : Int32) (draft_codeLength_ : Int32) (draft_size_ : Int32) (draft_take_ : Int32) (draft_fee_ : Int32) (draft_code_ : Nat → Int32) (draft_kinds_ : Nat → Int32) (draft_from_ : Nat → Int32) (draft_to_ : Nat → Int32) : Option ((Int32 × Int32 × Int32 × Int32 × Int32 × Int32 × Int32 × Int32 × Int32 × Int32 × (Nat → Int32) × (Nat → Int32) × (Nat → Int32) × (Nat → Int32)) ⊕ (Int32 × Int32 × Int32 × Int32 × Int32 × Int32 × Int32 × Int32 × Int32 × (Nat → Int32) × (Nat → Int32) × (Nat → Int32) × (Nat → Int32))) :=
  if 20 < l1 then
    some (.inr (fault_, place_, at_, kind_, allowedNames_, draft_codeLength_, draft_size_, draft_take_, draft_fee_, draft_code_, draft_kinds_, draft_from_, draft_to_))
  else
    if fault_ = 0 then
      if kind_ = 0 then
        some (.inr (fault_, place_, at_, kind_, allowedNames_, draft_codeLength_, draft_size_, draft_take_, draft_fee_, draft_code_, draft_kinds_, draft_from_, draft_to_))
      else
        (f_rd_faultOfClause kind_ draft_size_ draft_take_ draft_fee_).bind (fun r9 =>
        if r9 = 0 then
          if kind_ = 23 then
            (f_rd_readGo tokens_ fault_ place_ at_ kind_ kinds_ numbers_ starts_ draft_size_ draft_take_ draft_fee_ draft_kinds_ draft_from_ draft_to_).bind (un10 fun fault_24 place_25 at_26 kind_27 draft_size_28 draft_take_29 draft_fee_30 draft_kinds_31 draft_from_32 draft_to_33 =>
            some (.inl (l1 + 1, fault_24, place_25, at_26, kind_27, allowedNames_, draft_codeLength_, draft_size_28, draft_take_29, draft_fee_30, draft_code_, draft_kinds_31, draft_from_32, draft_to_33)))
          else
            (f_rd_readRule tokens_ fault_ place_ at_ kind_ allowedNames_ kinds_ draft_codeLength_ draft_size_ draft_take_ draft_fee_ starts_ numbers_ draft_code_ draft_kinds_ draft_from_ draft_to_ kind_).bind (un13 fun fault_10 place_11 at_12 kind_13 allowedNames_14 draft_codeLength_15 draft_size_16 draft_take_17 draft_fee_18 draft_code_19 draft_kinds_20 draft_from_21 draft_to_22 =>
            some (.inl (l1 + 1, fault_10, place_11, at_12, kind_13, allowedNames_14, draft_codeLength_15, draft_size_16, draft_take_17, draft_fee_18, draft_code_19, draft_kinds_20, draft_from_21, draft_to_22)))
        else
          (f_rd_fail fault_ place_ at_ starts_ r9).bind (un2 fun fault_35 place_36 =>
          some (.inl (l1 + 1, fault_35, place_36, at_, kind_, allowedNames_, draft_codeLength_, draft_size_, draft_take_, draft_fee_, draft_code_, draft_kinds_, draft_from_, draft_to_))))
    else
      some (.inr (fault_, place_, at_, kind_, allowedNames_, draft_codeLength_, draft_size_, draft_take_, draft_fee_, draft_code_, draft_kinds_, draft_from_, draft_to_))
def fj_rd_readTape_115 (length_ : Int32) (tokens_ : Int32) (hasRead_ : Int32) (fault_ : Int32) (place_ : Int32) (at_ : Int32) (kind_ : Int32) (allowedNames_ : Int32) (kinds_ : Nat → Int32) (starts_ : Nat → Int32) (numbers_ : Nat → Int32) (draft_codeLength_ : Int32) (draft_size_ : Int32) (draft_take_ : Int32) (draft_fee_ : Int32) (draft_code_ : Nat → Int32) (draft_kinds_ : Nat → Int32) (draft_from_ : Nat → Int32) (draft_to_ : Nat → Int32) : Option ((Int32 × Int32 × Int32 × Int32 × Int32 × Int32 × Int32 × Int32 × Int32 × (Nat → Int32) × (Nat → Int32) × (Nat → Int32) × Int32 × Int32 × Int32 × Int32 × (Nat → Int32) × (Nat → Int32) × (Nat → Int32) × (Nat → Int32))) :=
  if fault_ = 0 then
    some (1, length_, tokens_, hasRead_, fault_, place_, at_, kind_, allowedNames_, kinds_, starts_, numbers_, draft_codeLength_, draft_size_, draft_take_, draft_fee_, draft_code_, draft_kinds_, draft_from_, draft_to_)
  else
    some (0, length_, tokens_, hasRead_, fault_, place_, at_, kind_, allowedNames_, kinds_, starts_, numbers_, draft_codeLength_, draft_size_, draft_take_, draft_fee_, draft_code_, draft_kinds_, draft_from_, draft_to_)
def f_rd_readTape (length_ : Int32) (tokens_ : Int32) (hasRead_ : Int32) (fault_ : Int32) (place_ : Int32) (at_ : Int32) (kind_ : Int32) (allowedNames_ : Int32) (kinds_ : Nat → Int32) (starts_ : Nat → Int32) (numbers_ : Nat → Int32) (bytes_ : Nat → Int32) (draft_codeLength_ : Int32) (draft_size_ : Int32) (draft_take_ : Int32) (draft_fee_ : Int32) (draft_code_ : Nat → Int32) (draft_kinds_ : Nat → Int32) (draft_from_ : Nat → Int32) (draft_to_ : Nat → Int32) : Option ((Int32 × Int32 × Int32 × Int32 × Int32 × Int32 × Int32 × Int32 × Int32 × (Nat → Int32) × (Nat → Int32) × (Nat → Int32) × Int32 × Int32 × Int32 × Int32 × (Nat → Int32) × (Nat → Int32) × (Nat → Int32) × (Nat → Int32))) :=
  (f_rd_split length_ tokens_ kinds_ starts_ numbers_ bytes_).bind (un4 fun tokens_1 kinds_2 starts_3 numbers_4 =>
  (f_law_clear draft_codeLength_ draft_size_ draft_take_ draft_fee_).bind (un4 fun draft_codeLength_5 draft_size_6 draft_take_7 draft_fee_8 =>
  (itr (un14 (fb_rd_readTape_48 tokens_1 kinds_2 starts_3 numbers_4)) KF (0, 0, (-1), 0, kinds_2 0, allowedNames_, draft_codeLength_5, draft_size_6, draft_take_7, draft_fee_8, draft_code_, draft_kinds_, draft_from_, draft_to_)).bind
    (un13 fun fault_39 place_40 at_41 kind_42 allowedNames_43 draft_codeLength_44 draft_size_45 draft_take_46 draft_fee_47 draft_code_48 draft_kinds_49 draft_from_50 draft_to_51 =>
      fj_rd_readTape_115 0 tokens_1 1 fault_39 place_40 at_41 kind_42 allowedNames_43 kinds_2 starts_3 numbers_4 draft_codeLength_44 draft_size_45 draft_take_46 draft_fee_47 draft_code_48 draft_kinds_49 draft_from_50 draft_to_51
    )))
def f_law_copyFrom (codeLength_ : Int32) (size_ : Int32) (take_ : Int32) (fee_ : Int32) (code_ : Nat → Int32) (kinds_ : Nat → Int32) (from_ : Nat → Int32) (to_ : Nat → Int32) (p1_codeLength_ : Int32) (p1_size_ : Int32) (p1_take_ : Int32) (p1_fee_ : Int32) (p1_code_ : Nat → Int32) (p1_kinds_ : Nat → Int32) (p1_from_ : Nat → Int32) (p1_to_ : Nat → Int32) : Option ((Int32 × Int32 × Int32 × Int32 × (Nat → Int32) × (Nat → Int32) × (Nat → Int32) × (Nat → Int32))) :=
  bnd (va_cpy p1_code_ code_ 0 0 300 : Nat → Int32) fun code_1 =>
  bnd (va_cpy p1_kinds_ kinds_ 0 0 20 : Nat → Int32) fun kinds_2 =>
  bnd (va_cpy p1_from_ from_ 0 0 20 : Nat → Int32) fun from_3 =>
  bnd (va_cpy p1_to_ to_ 0 0 20 : Nat → Int32) fun to_4 =>
  some (p1_codeLength_, p1_size_, p1_take_, p1_fee_, code_1, kinds_2, from_3, to_4)
def f_x_text (now_texts_ : Int32) (laws_ru : Nat) (reader_length_ : Int32) (reader_tokens_ : Int32) (reader_hasRead_ : Int32) (reader_fault_ : Int32) (reader_place_ : Int32) (reader_at_ : Int32) (reader_kind_ : Int32) (reader_allowedNames_ : Int32) (reader_kinds_ : Nat → Int32) (reader_starts_ : Nat → Int32) (reader_numbers_ : Nat → Int32) (reader_bytes_ : Nat → Int32) (reader_draft_codeLength_ : Int32) (reader_draft_size_ : Int32) (reader_draft_take_ : Int32) (reader_draft_fee_ : Int32) (lawsL_codeLength_ : Int32) (lawsL_size_ : Int32) (lawsL_take_ : Int32) (lawsL_fee_ : Int32) (reader_draft_code_ : Nat → Int32) (reader_draft_kinds_ : Nat → Int32) (reader_draft_from_ : Nat → Int32) (reader_draft_to_ : Nat → Int32) (lawsL_code_ : Nat → Int32) (lawsL_kinds_ : Nat → Int32) (lawsL_from_ : Nat → Int32) (lawsL_to_ : Nat → Int32) : Option ((Int32 × Int32 × Int32 × Int32 × Int32 × Int32 × Int32 × Int32 × Int32 × Int32 × (Nat → Int32) × (Nat → Int32) × (Nat → Int32) × Int32 × Int32 × Int32 × Int32 × Int32 × Int32 × Int32 × Int32 × (Nat → Int32) × (Nat → Int32) × (Nat → Int32) × (Nat → Int32) × (Nat → Int32) × (Nat → Int32) × (Nat → Int32) × (Nat → Int32))) :=
  if now_texts_ < 0 then
    some ((-1), now_texts_, reader_length_, reader_tokens_, reader_hasRead_, reader_fault_, reader_place_, reader_at_, reader_kind_, reader_allowedNames_, reader_kinds_, reader_starts_, reader_numbers_, reader_draft_codeLength_, reader_draft_size_, reader_draft_take_, reader_draft_fee_, lawsL_codeLength_, lawsL_size_, lawsL_take_, lawsL_fee_, reader_draft_code_, reader_draft_kinds_, reader_draft_from_, reader_draft_to_, lawsL_code_, lawsL_kinds_, lawsL_from_, lawsL_to_)
  else
    if now_texts_ < 4 then
      (f_rd_readTape reader_length_ reader_tokens_ reader_hasRead_ reader_fault_ reader_place_ reader_at_ reader_kind_ reader_allowedNames_ reader_kinds_ reader_starts_ reader_numbers_ reader_bytes_ reader_draft_codeLength_ reader_draft_size_ reader_draft_take_ reader_draft_fee_ reader_draft_code_ reader_draft_kinds_ reader_draft_from_ reader_draft_to_).bind (un20 fun r1 reader_length_2 reader_tokens_3 reader_hasRead_4 reader_fault_5 reader_place_6 reader_at_7 reader_kind_8 reader_allowedNames_9 reader_kinds_10 reader_starts_11 reader_numbers_12 reader_draft_codeLength_13 reader_draft_size_14 reader_draft_take_15 reader_draft_fee_16 reader_draft_code_17 reader_draft_kinds_18 reader_draft_from_19 reader_draft_to_20 =>
      if r1 = 0 then
        some ((-1), now_texts_, reader_length_2, reader_tokens_3, reader_hasRead_4, reader_fault_5, reader_place_6, reader_at_7, reader_kind_8, reader_allowedNames_9, reader_kinds_10, reader_starts_11, reader_numbers_12, reader_draft_codeLength_13, reader_draft_size_14, reader_draft_take_15, reader_draft_fee_16, lawsL_codeLength_, lawsL_size_, lawsL_take_, lawsL_fee_, reader_draft_code_17, reader_draft_kinds_18, reader_draft_from_19, reader_draft_to_20, lawsL_code_, lawsL_kinds_, lawsL_from_, lawsL_to_)
      else
        if inb now_texts_ 4 then
          if ix now_texts_ = laws_ru then
            (f_law_copyFrom lawsL_codeLength_ lawsL_size_ lawsL_take_ lawsL_fee_ lawsL_code_ lawsL_kinds_ lawsL_from_ lawsL_to_ reader_draft_codeLength_13 reader_draft_size_14 reader_draft_take_15 reader_draft_fee_16 reader_draft_code_17 reader_draft_kinds_18 reader_draft_from_19 reader_draft_to_20).bind (un8 fun lawsL_codeLength_21 lawsL_size_22 lawsL_take_23 lawsL_fee_24 lawsL_code_25 lawsL_kinds_26 lawsL_from_27 lawsL_to_28 =>
            some (now_texts_, now_texts_ + 1, reader_length_2, reader_tokens_3, reader_hasRead_4, reader_fault_5, reader_place_6, reader_at_7, reader_kind_8, reader_allowedNames_9, reader_kinds_10, reader_starts_11, reader_numbers_12, reader_draft_codeLength_13, reader_draft_size_14, reader_draft_take_15, reader_draft_fee_16, lawsL_codeLength_21, lawsL_size_22, lawsL_take_23, lawsL_fee_24, reader_draft_code_17, reader_draft_kinds_18, reader_draft_from_19, reader_draft_to_20, lawsL_code_25, lawsL_kinds_26, lawsL_from_27, lawsL_to_28))
          else none
        else none)
    else
      some ((-1), now_texts_, reader_length_, reader_tokens_, reader_hasRead_, reader_fault_, reader_place_, reader_at_, reader_kind_, reader_allowedNames_, reader_kinds_, reader_starts_, reader_numbers_, reader_draft_codeLength_, reader_draft_size_, reader_draft_take_, reader_draft_fee_, lawsL_codeLength_, lawsL_size_, lawsL_take_, lawsL_fee_, reader_draft_code_, reader_draft_kinds_, reader_draft_from_, reader_draft_to_, lawsL_code_, lawsL_kinds_, lawsL_from_, lawsL_to_)
def f_x_fault (reader_hasRead_ : Int32) (reader_fault_ : Int32) (reader_place_ : Int32) (l1 : Int32) : Option (Int32) :=
  if reader_hasRead_ = 0 then
    some (-1)
  else
    if l1 = 0 then
      some reader_fault_
    else
      if l1 = 1 then
        some reader_place_
      else
        some (-1)
def f_x_by (now_texts_ : Int32) (now_ruling_ : Int32) (l1 : Int32) : Option ((Int32 × Int32)) :=
  if l1 < (-1) then
    some (0, now_ruling_)
  else
    if l1 < now_texts_ then
      some (1, l1)
    else
      some (0, now_ruling_)
def f_law_kindOf (size_ : Int32) (kinds_ : Nat → Int32) (l1 : Int32) : Option (Int32) :=
  if l1 < 0 then
    some 1
  else
    if l1 < size_ then
      if inb l1 20 then
        some (kinds_ (ix l1))
      else none
    else
      some 1
def f_law_fromOf (size_ : Int32) (from_ : Nat → Int32) (l1 : Int32) : Option (Int32) :=
  if l1 < 0 then
    some 0
  else
    if l1 < size_ then
      if inb l1 20 then
        some (from_ (ix l1))
      else none
    else
      some 0
def f_law_toOf (size_ : Int32) (to_ : Nat → Int32) (l1 : Int32) : Option (Int32) :=
  if l1 < 0 then
    some 0
  else
    if l1 < size_ then
      if inb l1 20 then
        some (to_ (ix l1))
      else none
    else
      some 0
def f_world_hasPerson (people_ : Int32) (l1 : Int32) : Option (Int32) :=
  if l1 < 0 then
    some 0
  else
    if l1 < people_ then
      some 1
    else
      some 0
def f_world_hasGate (gates_ : Int32) (l1 : Int32) : Option (Int32) :=
  if l1 < 0 then
    some 0
  else
    if l1 < gates_ then
      some 1
    else
      some 0
def f_town_nameOf (names_ : Nat → Int32) (l1 : Int32) : Option (Int32) :=
  if l1 < 0 then
    some (-1)
  else
    if l1 < 8 then
      if inb l1 8 then
        some (names_ (ix l1))
      else none
    else
      some (-1)
def f_town_sizeOf (sizes_ : Nat → Int32) (l1 : Int32) : Option (Int32) :=
  if l1 < 0 then
    some 0
  else
    if l1 < 3 then
      if inb l1 3 then
        some (sizes_ (ix l1))
      else none
    else
      some 0
def f_go_tellGoing (world_hour_ : Int32) (sums_values_ : Nat → Int32) (p1_names_ : Nat → Int32) (p1_sizes_ : Nat → Int32) (l2 : Int32) (l3 : Int32) : Option (Nat → Int32) :=
  (f_town_nameOf p1_names_ l2).bind (fun r1 =>
  bnd (upd sums_values_ 1 r1 : Nat → Int32) fun sums_values_2 =>
  bnd (upd sums_values_2 3 l2 : Nat → Int32) fun sums_values_3 =>
  bnd (upd sums_values_3 4 l3 : Nat → Int32) fun sums_values_4 =>
  (f_town_sizeOf p1_sizes_ l3).bind (fun r5 =>
  bnd (upd sums_values_4 5 r5 : Nat → Int32) fun sums_values_6 =>
  bnd (upd sums_values_6 6 world_hour_ : Nat → Int32) fun sums_values_7 =>
  if r1 = (-1) then
    bnd (upd sums_values_7 7 1 : Nat → Int32) fun sums_values_9 =>
    some sums_values_9
  else
    bnd (upd sums_values_7 7 0 : Nat → Int32) fun sums_values_8 =>
    some sums_values_8))
def f_law_codeAt (codeLength_ : Int32) (code_ : Nat → Int32) (l1 : Int32) : Option (Int32) :=
  if l1 < 0 then
    some 0
  else
    if l1 < codeLength_ then
      if inb l1 300 then
        some (code_ (ix l1))
      else none
    else
      some 0
def f_sums_worthOfBoth (l0 : Int32) (l1 : Int64) (l3 : Int64) : Option (Int64) :=
  if l0 = 3 then
    if (lg_cmp l1 l3) < 0 then
      some 1
    else
      some 0
  else
    if l0 = 4 then
      if 0 < (lg_cmp l1 l3) then
        some 1
      else
        some 0
    else
      if l0 = 5 then
        if (lg_cmp l1 l3) = 0 then
          some 1
        else
          some 0
      else
        if l0 = 6 then
          if (lg_cmp l1 l3) = 0 then
            some 0
          else
            some 1
        else
          if l0 = 7 then
            some (l1 + l3)
          else
            if l0 = 8 then
              some (l1 - l3)
            else
              if l0 = 9 then
                some (l1 * l3)
              else
                if l0 = 10 then
                  if (lg_cmp l3 0) = 0 then
                    some 0
                  else
                    if ¬ l3 = 0 then
                      some (l1 / l3)
                    else none
                else
                  if l0 = 11 then
                    if (lg_cmp l3 0) = 0 then
                      some 0
                    else
                      if ¬ l3 = 0 then
                        some (rem64 l1 l3)
                      else none
                  else
                    if l0 = 12 then
                      some 0
                    else
                      if l0 = 13 then
                        some 0
                      else
                        if l0 = 14 then
                          some 0
                        else
                          if l0 = 15 then
                            if 0 < (lg_cmp l1 l3) then
                              some 0
                            else
                              some 1
                          else
                            if l0 = 16 then
                              if (lg_cmp l1 l3) < 0 then
                                some 0
                              else
                                some 1
                            else
                              if l0 = 17 then
                                some 0
                              else
                                if l0 = 18 then
                                  some 0
                                else
                                  if l0 = 19 then
                                    some 0
                                  else
                                    if l0 = 20 then
                                      some 0
                                    else
                                      if l0 = 21 then
                                        some 0
                                      else
                                        if l0 = 22 then
                                          some 0
                                        else
                                          if l0 = 23 then
                                            some 0
                                          else
                                            if l0 = 24 then
                                              some 0
                                            else
                                              if l0 = 25 then
                                                some (l1 ||| l3)
                                              else
                                                if l0 = 26 then
                                                  some (l1 &&& l3)
                                                else
                                                  some 0
def fj_sums_worthOf_173_16 (stack_ : Nat → Int32) (values_ : Nat → Int32) (p1_codeLength_ : Int32) (p1_code_ : Nat → Int32) (l3 : Int32) (l4 : Int32) (l5 : Int32) (l6 : Int32) : Option ((Int32 × Int32 × (Nat → Int32)) ⊕ (Nat → Int32)) :=
  if l3 < 64 then
    if inb l3 64 then
      bnd (upd stack_ (ix l3) l6 : Nat → Int32) fun stack_7 =>
      some (.inl (l3 + 1, l5 + 1, stack_7))
    else none
  else
    some (.inl (l3, l5 + 1, stack_))
def fj_sums_worthOf_82_16 (stack_ : Nat → Int32) (values_ : Nat → Int32) (p1_codeLength_ : Int32) (p1_code_ : Nat → Int32) (l3 : Int32) (l4 : Int32) (l5 : Int32) (l7 : Int32) : Option ((Int32 × Int32 × (Nat → Int32)) ⊕ (Nat → Int32)) :=
  (f_math_max_II 0 (l3 - 1)).bind (fun r4 =>
  if l7 = 17 then
    if inb r4 64 then
      fj_sums_worthOf_173_16 stack_ values_ p1_codeLength_ p1_code_ r4 l4 l5 (-(stack_ (ix r4)))
    else none
  else
    if inb r4 64 then
      fj_sums_worthOf_173_16 stack_ values_ p1_codeLength_ p1_code_ r4 l4 l5 (1 - (stack_ (ix r4)))
    else none)
def fj_sums_worthOf_68_16 (stack_ : Nat → Int32) (values_ : Nat → Int32) (p1_codeLength_ : Int32) (p1_code_ : Nat → Int32) (l3 : Int32) (l4 : Int32) (l5 : Int32) (l6 : Int32) (l7 : Int32) : Option ((Int32 × Int32 × (Nat → Int32)) ⊕ (Nat → Int32)) :=
  if l7 = 17 then
    fj_sums_worthOf_82_16 stack_ values_ p1_codeLength_ p1_code_ l3 l4 l5 l7
  else
    if l7 = 27 then
      fj_sums_worthOf_82_16 stack_ values_ p1_codeLength_ p1_code_ l3 l4 l5 l7
    else
      if l7 < 0 then
        fj_sums_worthOf_173_16 stack_ values_ p1_codeLength_ p1_code_ l3 l4 l5 l6
      else
        (f_math_max_II 0 (l3 - 2)).bind (fun r10 =>
        if inb r10 64 then
          if inb (r10 + 1) 64 then
            (f_sums_worthOfBoth l7 ((stack_ (ix r10)).toInt64) ((stack_ (ix (r10 + 1))).toInt64)).bind (fun r13 =>
            (f_math_min_JJ (Int64.ofInt 1000000) r13).bind (fun r14 =>
            (f_math_max_JJ (Int64.ofInt (-1000000)) r14).bind (fun r15 =>
            fj_sums_worthOf_173_16 stack_ values_ p1_codeLength_ p1_code_ r10 l4 l5 r15.toInt32)))
          else none
        else none)
def fb_sums_worthOf_16 (values_ : Nat → Int32) (p1_codeLength_ : Int32) (p1_code_ : Nat → Int32) (l4 : Int32) (l3 : Int32) (l5 : Int32) (stack_ : Nat → Int32) : Option ((Int32 × Int32 × (Nat → Int32)) ⊕ (Nat → Int32)) :=
  if l5 < l4 then
    (f_law_codeAt p1_codeLength_ p1_code_ l5).bind (fun r3 =>
    if (r3 - 20000) < 28 then
      fj_sums_worthOf_68_16 stack_ values_ p1_codeLength_ p1_code_ l3 l4 l5 r3 (r3 - 20000)
    else
      if 35 < (r3 - 20000) then
        fj_sums_worthOf_68_16 stack_ values_ p1_codeLength_ p1_code_ l3 l4 l5 r3 (r3 - 20000)
      else
        if inb ((r3 - 20000) - 28) 8 then
          bnd (values_ (ix ((r3 - 20000) - 28)) : Int32) fun t21 =>
          fj_sums_worthOf_173_16 stack_ values_ p1_codeLength_ p1_code_ l3 l4 l5 t21
        else none)
  else
    some (.inr stack_)
def f_sums_worthOf (stack_ : Nat → Int32) (values_ : Nat → Int32) (p1_codeLength_ : Int32) (p1_size_ : Int32) (p1_to_ : Nat → Int32) (p1_from_ : Nat → Int32) (p1_code_ : Nat → Int32) (l2 : Int32) : Option ((Int32 × (Nat → Int32))) :=
  (f_law_toOf p1_size_ p1_to_ l2).bind (fun r1 =>
  (f_law_fromOf p1_size_ p1_from_ l2).bind (fun r2 =>
  (itr (un3 (fb_sums_worthOf_16 values_ p1_codeLength_ p1_code_ r1)) KF (0, r2, stack_)).bind
    (fun stack_23 =>
      some (stack_23 0, stack_23)
    )))
def fb_go_isBarred_23 (sums_values_ : Nat → Int32) (lawsL_codeLength_ : Int32) (lawsL_size_ : Int32) (lawsL_kinds_ : Nat → Int32) (lawsL_to_ : Nat → Int32) (lawsL_from_ : Nat → Int32) (lawsL_code_ : Nat → Int32) (l5 : Int32) (sums_stack_ : Nat → Int32) : Option ((Int32 × (Nat → Int32)) ⊕ ((Nat → Int32) ⊕ (Nat → Int32))) :=
  if l5 < lawsL_size_ then
    (f_law_kindOf lawsL_size_ lawsL_kinds_ l5).bind (fun r2 =>
    if r2 = 22 then
      (f_sums_worthOf sums_stack_ sums_values_ lawsL_codeLength_ lawsL_size_ lawsL_to_ lawsL_from_ lawsL_code_ l5).bind (un2 fun r3 sums_stack_4 =>
      if r3 = 0 then
        some (.inl (l5 + 1, sums_stack_4))
      else
        some (.inr (.inl sums_stack_4)))
    else
      some (.inl (l5 + 1, sums_stack_)))
  else
    some (.inr (.inr (sums_stack_)))
def f_go_isBarred (world_hour_ : Int32) (world_ruling_ : Int32) (laws_ru : Nat) (sums_values_ : Nat → Int32) (lawsL_codeLength_ : Int32) (lawsL_size_ : Int32) (sums_stack_ : Nat → Int32) (lawsL_kinds_ : Nat → Int32) (lawsL_to_ : Nat → Int32) (lawsL_from_ : Nat → Int32) (lawsL_code_ : Nat → Int32) (p1_names_ : Nat → Int32) (p1_sizes_ : Nat → Int32) (l2 : Int32) (l3 : Int32) : Option ((Int32 × (Nat → Int32) × (Nat → Int32))) :=
  if world_ruling_ < 0 then
    some (0, sums_values_, sums_stack_)
  else
    if world_ruling_ < 4 then
      if ix world_ruling_ = laws_ru then
        (f_go_tellGoing world_hour_ sums_values_ p1_names_ p1_sizes_ l2 l3).bind (fun sums_values_1 =>
        (itr (un2 (fb_go_isBarred_23 sums_values_1 lawsL_codeLength_ lawsL_size_ lawsL_kinds_ lawsL_to_ lawsL_from_ lawsL_code_)) KF (0, sums_stack_)).bind
          (Sum.elim
            (fun sums_stack_7 =>
              some (1, sums_values_1, sums_stack_7)
            )
            (fun sums_stack_8 =>
              some (0, sums_values_1, sums_stack_8)
            )
          ))
      else none
    else
      some (0, sums_values_, sums_stack_)
def fj_go_canBe_43 (world_hour_ : Int32) (world_ruling_ : Int32) (laws_ru : Nat) (sums_values_ : Nat → Int32) (lawsL_codeLength_ : Int32) (lawsL_size_ : Int32) (sums_stack_ : Nat → Int32) (lawsL_kinds_ : Nat → Int32) (lawsL_to_ : Nat → Int32) (lawsL_from_ : Nat → Int32) (lawsL_code_ : Nat → Int32) (p1_names_ : Nat → Int32) (p1_sizes_ : Nat → Int32) (l2 : Int32) (l3 : Int32) : Option ((Int32 × (Nat → Int32) × (Nat → Int32))) :=
  (f_go_isBarred world_hour_ world_ruling_ laws_ru sums_values_ lawsL_codeLength_ lawsL_size_ sums_stack_ lawsL_kinds_ lawsL_to_ lawsL_from_ lawsL_code_ p1_names_ p1_sizes_ l2 l3).bind (un3 fun r4 sums_values_5 sums_stack_6 =>
  if r4 = 0 then
    some (1, sums_values_5, sums_stack_6)
  else
    some (0, sums_values_5, sums_stack_6))
def f_go_canBe (world_people_ : Int32) (world_gates_ : Int32) (world_hour_ : Int32) (world_ruling_ : Int32) (laws_ru : Nat) (sums_values_ : Nat → Int32) (lawsL_codeLength_ : Int32) (lawsL_size_ : Int32) (sums_stack_ : Nat → Int32) (lawsL_kinds_ : Nat → Int32) (lawsL_to_ : Nat → Int32) (lawsL_from_ : Nat → Int32) (lawsL_code_ : Nat → Int32) (p1_names_ : Nat → Int32) (p1_sizes_ : Nat → Int32) (l2 : Int32) (l3 : Int32) : Option ((Int32 × (Nat → Int32) × (Nat → Int32))) :=
  (f_world_hasPerson world_people_ l2).bind (fun r1 =>
  if r1 = 0 then
    some (0, sums_values_, sums_stack_)
  else
    (f_world_hasGate world_gates_ l3).bind (fun r2 =>
    if r2 = 0 then
      some (0, sums_values_, sums_stack_)
    else
      (f_town_nameOf p1_names_ l2).bind (fun r3 =>
      if r3 = (-1) then
        (f_town_sizeOf p1_sizes_ l3).bind (fun r8 =>
        if r8 = 0 then
          some (0, sums_values_, sums_stack_)
        else
          fj_go_canBe_43 world_hour_ world_ruling_ laws_ru sums_values_ lawsL_codeLength_ lawsL_size_ sums_stack_ lawsL_kinds_ lawsL_to_ lawsL_from_ lawsL_code_ p1_names_ p1_sizes_ l2 l3)
      else
        fj_go_canBe_43 world_hour_ world_ruling_ laws_ru sums_values_ lawsL_codeLength_ lawsL_size_ sums_stack_ lawsL_kinds_ lawsL_to_ lawsL_from_ lawsL_code_ p1_names_ p1_sizes_ l2 l3)))
def f_go_feeOf (world_hour_ : Int32) (world_ruling_ : Int32) (laws_ru : Nat) (lawsL_codeLength_ : Int32) (lawsL_size_ : Int32) (lawsL_fee_ : Int32) (sums_values_ : Nat → Int32) (sums_stack_ : Nat → Int32) (lawsL_to_ : Nat → Int32) (lawsL_from_ : Nat → Int32) (lawsL_code_ : Nat → Int32) (p1_names_ : Nat → Int32) (p1_sizes_ : Nat → Int32) (l2 : Int32) (l3 : Int32) : Option ((Int32 × (Nat → Int32) × (Nat → Int32))) :=
  if world_ruling_ < 0 then
    some (1, sums_values_, sums_stack_)
  else
    if world_ruling_ < 4 then
      if ix world_ruling_ = laws_ru then
        if lawsL_fee_ = (-1) then
          some (1, sums_values_, sums_stack_)
        else
          (f_go_tellGoing world_hour_ sums_values_ p1_names_ p1_sizes_ l2 l3).bind (fun sums_values_1 =>
          (f_sums_worthOf sums_stack_ sums_values_1 lawsL_codeLength_ lawsL_size_ lawsL_to_ lawsL_from_ lawsL_code_ lawsL_fee_).bind (un2 fun r2 sums_stack_3 =>
          (f_math_min_II 999 r2).bind (fun r4 =>
          (f_math_max_II 0 r4).bind (fun r5 =>
          some (r5, sums_values_1, sums_stack_3)))))
      else none
    else
      some (1, sums_values_, sums_stack_)
def f_town_leave (names_ : Nat → Int32) (sizes_ : Nat → Int32) (heaps_ : Nat → Nat → Int32) (l1 : Int32) (l2 : Int32) : Option ((Int32 × (Nat → Int32) × (Nat → Int32) × (Nat → Nat → Int32))) :=
  (f_town_nameOf names_ l1).bind (fun r1 =>
  (f_town_sizeOf sizes_ l2).bind (fun r2 =>
  if r1 = (-1) then
    some ((-1), names_, sizes_, heaps_)
  else
    if l2 < 0 then
      some ((-1), names_, sizes_, heaps_)
    else
      if l2 < 3 then
        if r2 < 8 then
          if inb l2 3 then
            if inb r2 8 then
              bnd (setR heaps_ (ix l2) (upd (heaps_ (ix l2)) (ix r2) r1) : Nat → Nat → Int32) fun heaps_5 =>
              if inb l2 3 then
                bnd (upd sizes_ (ix l2) (r2 + 1) : Nat → Int32) fun sizes_7 =>
                if inb l1 8 then
                  bnd (upd names_ (ix l1) (-1) : Nat → Int32) fun names_9 =>
                  some (r1, names_9, sizes_7, heaps_5)
                else none
              else none
            else none
          else none
        else
          some ((-1), names_, sizes_, heaps_)
      else
        some ((-1), names_, sizes_, heaps_)))
def fj_world_draw_14 (x_ : Int32) (s0 : Int32) : Option ((Int32 × Int32)) :=
  bnd (rem32 ((x_ * 191) + 43) 30109 : Int32) fun x_1 =>
  some (s0, x_1)
def f_world_draw (x_ : Int32) (l1 : Int32) : Option ((Int32 × Int32)) :=
  if 0 < l1 then
    if ¬ l1 = 0 then
      fj_world_draw_14 x_ (rem32 x_ l1)
    else none
  else
    fj_world_draw_14 x_ 0
def f_town_nameAt (sizes_ : Nat → Int32) (heaps_ : Nat → Nat → Int32) (l1 : Int32) (l2 : Int32) : Option (Int32) :=
  if l2 < 0 then
    some (-1)
  else
    (f_town_sizeOf sizes_ l1).bind (fun r1 =>
    if l2 < r1 then
      if inb l1 3 then
        if inb l2 8 then
          some (heaps_ (ix l1) (ix l2))
        else none
      else none
    else
      some (-1))
def fj_go_placeFor_117_48 (lawsL_codeLength_ : Int32) (lawsL_size_ : Int32) (lawsL_take_ : Int32) (sums_values_ : Nat → Int32) (sums_stack_ : Nat → Int32) (world_born_ : Nat → Int32) (lawsL_to_ : Nat → Int32) (lawsL_from_ : Nat → Int32) (lawsL_code_ : Nat → Int32) (p1_sizes_ : Nat → Int32) (p1_heaps_ : Nat → Nat → Int32) (l2 : Int32) (l3 : Int32) (l4 : Int32) (l6 : Int32) (l7 : Int32) (l8 : Int32) (s0 : Int32) (s1 : Int32) : Option ((Int32 × Int32 × Int32 × (Nat → Int32) × (Nat → Int32)) ⊕ (Int32 × (Nat → Int32) × (Nat → Int32))) :=
  if inb s0 8 then
    bnd (upd sums_values_ (ix s0) s1 : Nat → Int32) fun sums_values_7 =>
    (f_sums_worthOf sums_stack_ sums_values_7 lawsL_codeLength_ lawsL_size_ lawsL_to_ lawsL_from_ lawsL_code_ lawsL_take_).bind (un2 fun r8 sums_stack_9 =>
    if l6 = (-1) then
      some (.inl (l8, r8, l8 + 1, sums_values_7, sums_stack_9))
    else
      if r8 < l7 then
        some (.inl (l6, l7, l8 + 1, sums_values_7, sums_stack_9))
      else
        some (.inl (l8, r8, l8 + 1, sums_values_7, sums_stack_9)))
  else none
def fb_go_placeFor_48 (lawsL_codeLength_ : Int32) (lawsL_size_ : Int32) (lawsL_take_ : Int32) (world_born_ : Nat → Int32) (lawsL_to_ : Nat → Int32) (lawsL_from_ : Nat → Int32) (lawsL_code_ : Nat → Int32) (p1_sizes_ : Nat → Int32) (p1_heaps_ : Nat → Nat → Int32) (l2 : Int32) (l3 : Int32) (l4 : Int32) (l6 : Int32) (l7 : Int32) (l8 : Int32) (sums_values_ : Nat → Int32) (sums_stack_ : Nat → Int32) : Option ((Int32 × Int32 × Int32 × (Nat → Int32) × (Nat → Int32)) ⊕ (Int32 × (Nat → Int32) × (Nat → Int32))) :=
  if l8 < l4 then
    (f_town_nameAt p1_sizes_ p1_heaps_ l3 l8).bind (fun r3 =>
    bnd (upd sums_values_ 0 l8 : Nat → Int32) fun sums_values_4 =>
    bnd (upd sums_values_4 1 r3 : Nat → Int32) fun sums_values_5 =>
    if r3 = l2 then
      if inb l2 8 then
        if (world_born_ (ix l2)) = 0 then
          fj_go_placeFor_117_48 lawsL_codeLength_ lawsL_size_ lawsL_take_ sums_values_5 sums_stack_ world_born_ lawsL_to_ lawsL_from_ lawsL_code_ p1_sizes_ p1_heaps_ l2 l3 l4 l6 l7 l8 2 0
        else
          fj_go_placeFor_117_48 lawsL_codeLength_ lawsL_size_ lawsL_take_ sums_values_5 sums_stack_ world_born_ lawsL_to_ lawsL_from_ lawsL_code_ p1_sizes_ p1_heaps_ l2 l3 l4 l6 l7 l8 2 1
      else none
    else
      fj_go_placeFor_117_48 lawsL_codeLength_ lawsL_size_ lawsL_take_ sums_values_5 sums_stack_ world_born_ lawsL_to_ lawsL_from_ lawsL_code_ p1_sizes_ p1_heaps_ l2 l3 l4 l6 l7 l8 2 0)
  else
    some (.inr (l6, sums_values_, sums_stack_))
def f_go_placeFor (world_hour_ : Int32) (world_ruling_ : Int32) (laws_ru : Nat) (lawsL_codeLength_ : Int32) (lawsL_size_ : Int32) (lawsL_take_ : Int32) (sums_values_ : Nat → Int32) (sums_stack_ : Nat → Int32) (world_born_ : Nat → Int32) (lawsL_to_ : Nat → Int32) (lawsL_from_ : Nat → Int32) (lawsL_code_ : Nat → Int32) (p1_sizes_ : Nat → Int32) (p1_names_ : Nat → Int32) (p1_heaps_ : Nat → Nat → Int32) (l2 : Int32) (l3 : Int32) : Option ((Int32 × (Nat → Int32) × (Nat → Int32))) :=
  (f_town_sizeOf p1_sizes_ l3).bind (fun r1 =>
  if world_ruling_ < 0 then
    some (r1 - 1, sums_values_, sums_stack_)
  else
    if world_ruling_ < 4 then
      if ix world_ruling_ = laws_ru then
        if lawsL_take_ = (-1) then
          some (r1 - 1, sums_values_, sums_stack_)
        else
          (f_go_tellGoing world_hour_ sums_values_ p1_names_ p1_sizes_ l2 l3).bind (fun sums_values_2 =>
          (itr (un5 (fb_go_placeFor_48 lawsL_codeLength_ lawsL_size_ lawsL_take_ world_born_ lawsL_to_ lawsL_from_ lawsL_code_ p1_sizes_ p1_heaps_ l2 l3 r1)) KF ((-1), 0, 0, sums_values_2, sums_stack_)).bind
            (un3 fun l6_13 sums_values_14 sums_stack_15 =>
              some (l6_13, sums_values_14, sums_stack_15)
            ))
      else none
    else
      some (r1 - 1, sums_values_, sums_stack_))
def fb_town_enter_52 (l2 : Int32) (l5 : Int32) (l6 : Int32) (heaps_ : Nat → Nat → Int32) : Option ((Int32 × (Nat → Nat → Int32)) ⊕ (Nat → Nat → Int32)) :=
  if l6 < l5 then
    if inb l2 3 then
      if inb l2 3 then
        if inb (l6 + 1) 8 then
          if inb l6 8 then
            bnd (setR heaps_ (ix l2) (upd (heaps_ (ix l2)) (ix l6) (heaps_ (ix l2) (ix (l6 + 1)))) : Nat → Nat → Int32) fun heaps_8 =>
            some (.inl (l6 + 1, heaps_8))
          else none
        else none
      else none
    else none
  else
    some (.inr heaps_)
def f_town_enter (sizes_ : Nat → Int32) (heaps_ : Nat → Nat → Int32) (names_ : Nat → Int32) (l1 : Int32) (l2 : Int32) (l3 : Int32) : Option ((Int32 × (Nat → Int32) × (Nat → Nat → Int32) × (Nat → Int32))) :=
  (f_town_nameAt sizes_ heaps_ l2 l3).bind (fun r1 =>
  if r1 = (-1) then
    some ((-1), sizes_, heaps_, names_)
  else
    if l1 < 0 then
      some ((-1), sizes_, heaps_, names_)
    else
      if l1 < 8 then
        if inb l1 8 then
          if (names_ (ix l1)) = (-1) then
            if inb l2 3 then
              (itr (un2 (fb_town_enter_52 l2 ((sizes_ (ix l2)) - 1))) KF (l3, heaps_)).bind
                (fun heaps_9 =>
                  if inb l2 3 then
                    bnd (upd sizes_ (ix l2) ((sizes_ (ix l2)) - 1) : Nat → Int32) fun sizes_11 =>
                    if inb l1 8 then
                      bnd (upd names_ (ix l1) r1 : Nat → Int32) fun names_13 =>
                      some (r1, sizes_11, heaps_9, names_13)
                    else none
                  else none
                )
            else none
          else
            some ((-1), sizes_, heaps_, names_)
        else none
      else
        some ((-1), sizes_, heaps_, names_))
def fj_go_doNow_102 (world_x_ : Int32) (sums_values_ : Nat → Int32) (sums_stack_ : Nat → Int32) (world_paid_ : Nat → Int32) (world_done_ : Nat → Int32) (world_town_names_ : Nat → Int32) (world_town_sizes_ : Nat → Int32) (world_town_heaps_ : Nat → Nat → Int32) (l1 : Int32) (l2 : Int32) (s0 : Int32) : Option ((Int32 × Int32 × (Nat → Int32) × (Nat → Int32) × (Nat → Int32) × (Nat → Int32) × (Nat → Int32) × (Nat → Int32) × (Nat → Nat → Int32))) :=
  (f_town_enter world_town_sizes_ world_town_heaps_ world_town_names_ l1 l2 s0).bind (un4 fun r18 world_town_sizes_19 world_town_heaps_20 world_town_names_21 =>
  some (r18, world_x_, sums_values_, sums_stack_, world_paid_, world_done_, world_town_names_21, world_town_sizes_19, world_town_heaps_20))
def f_go_doNow (world_people_ : Int32) (world_gates_ : Int32) (world_hour_ : Int32) (world_ruling_ : Int32) (world_x_ : Int32) (laws_ru : Nat) (sums_values_ : Nat → Int32) (lawsL_codeLength_ : Int32) (lawsL_size_ : Int32) (lawsL_take_ : Int32) (lawsL_fee_ : Int32) (sums_stack_ : Nat → Int32) (world_paid_ : Nat → Int32) (world_done_ : Nat → Int32) (world_lot_ : Nat → Int32) (world_born_ : Nat → Int32) (world_town_names_ : Nat → Int32) (world_town_sizes_ : Nat → Int32) (lawsL_kinds_ : Nat → Int32) (lawsL_to_ : Nat → Int32) (lawsL_from_ : Nat → Int32) (lawsL_code_ : Nat → Int32) (world_town_heaps_ : Nat → Nat → Int32) (l1 : Int32) (l2 : Int32) : Option ((Int32 × Int32 × (Nat → Int32) × (Nat → Int32) × (Nat → Int32) × (Nat → Int32) × (Nat → Int32) × (Nat → Int32) × (Nat → Nat → Int32))) :=
  (f_go_canBe world_people_ world_gates_ world_hour_ world_ruling_ laws_ru sums_values_ lawsL_codeLength_ lawsL_size_ sums_stack_ lawsL_kinds_ lawsL_to_ lawsL_from_ lawsL_code_ world_town_names_ world_town_sizes_ l1 l2).bind (un3 fun r1 sums_values_2 sums_stack_3 =>
  if r1 = 0 then
    some ((-1), world_x_, sums_values_2, sums_stack_3, world_paid_, world_done_, world_town_names_, world_town_sizes_, world_town_heaps_)
  else
    if inb l1 8 then
      (f_go_feeOf world_hour_ world_ruling_ laws_ru lawsL_codeLength_ lawsL_size_ lawsL_fee_ sums_values_2 sums_stack_3 lawsL_to_ lawsL_from_ lawsL_code_ world_town_names_ world_town_sizes_ l1 l2).bind (un3 fun r5 sums_values_6 sums_stack_7 =>
      if inb l1 8 then
        bnd (upd world_paid_ (ix l1) ((world_paid_ (ix l1)) + r5) : Nat → Int32) fun world_paid_9 =>
        if inb l1 8 then
          if inb l1 8 then
            bnd (upd world_done_ (ix l1) ((world_done_ (ix l1)) + 1) : Nat → Int32) fun world_done_12 =>
            (f_town_nameOf world_town_names_ l1).bind (fun r13 =>
            if r13 = (-1) then
              if inb l2 3 then
                if (world_lot_ (ix l2)) = 0 then
                  (f_go_placeFor world_hour_ world_ruling_ laws_ru lawsL_codeLength_ lawsL_size_ lawsL_take_ sums_values_6 sums_stack_7 world_born_ lawsL_to_ lawsL_from_ lawsL_code_ world_town_sizes_ world_town_names_ world_town_heaps_ l1 l2).bind (un3 fun r15 sums_values_16 sums_stack_17 =>
                  fj_go_doNow_102 world_x_ sums_values_16 sums_stack_17 world_paid_9 world_done_12 world_town_names_ world_town_sizes_ world_town_heaps_ l1 l2 r15)
                else
                  (f_town_sizeOf world_town_sizes_ l2).bind (fun r24 =>
                  (f_world_draw world_x_ r24).bind (un2 fun r25 world_x_26 =>
                  fj_go_doNow_102 world_x_26 sums_values_6 sums_stack_7 world_paid_9 world_done_12 world_town_names_ world_town_sizes_ world_town_heaps_ l1 l2 r25))
              else none
            else
              (f_town_leave world_town_names_ world_town_sizes_ world_town_heaps_ l1 l2).bind (un4 fun r29 world_town_names_30 world_town_sizes_31 world_town_heaps_32 =>
              some (r29, world_x_, sums_values_6, sums_stack_7, world_paid_9, world_done_12, world_town_names_30, world_town_sizes_31, world_town_heaps_32)))
          else none
        else none
      else none)
    else none)
def fb_x_gone1_38 (now_people_ : Int32) (now_gates_ : Int32) (now_hour_ : Int32) (now_ruling_ : Int32) (laws_ru : Nat) (lawsL_codeLength_ : Int32) (lawsL_size_ : Int32) (lawsL_take_ : Int32) (lawsL_fee_ : Int32) (now_lot_ : Nat → Int32) (now_born_ : Nat → Int32) (lawsL_kinds_ : Nat → Int32) (lawsL_from_ : Nat → Int32) (lawsL_to_ : Nat → Int32) (lawsL_code_ : Nat → Int32) (l3 : Int32) (l4 : Int32) (now_x_ : Int32) (now_paid_ : Nat → Int32) (now_done_ : Nat → Int32) (now_town_names_ : Nat → Int32) (goings_sums_values_ : Nat → Int32) (now_town_sizes_ : Nat → Int32) (goings_sums_stack_ : Nat → Int32) (now_town_heaps_ : Nat → Nat → Int32) : Option ((Int32 × Int32 × Int32 × (Nat → Int32) × (Nat → Int32) × (Nat → Int32) × (Nat → Int32) × (Nat → Int32) × (Nat → Int32) × (Nat → Nat → Int32)) ⊕ (Int32 × Int32 × (Nat → Int32) × (Nat → Int32) × (Nat → Int32) × (Nat → Int32) × (Nat → Int32) × (Nat → Int32) × (Nat → Nat → Int32))) :=
  if l4 < lawsL_size_ then
    (f_law_kindOf lawsL_size_ lawsL_kinds_ l4).bind (fun r1 =>
    if r1 = 23 then
      (f_law_fromOf lawsL_size_ lawsL_from_ l4).bind (fun r2 =>
      (f_law_toOf lawsL_size_ lawsL_to_ l4).bind (fun r3 =>
      (f_go_doNow now_people_ now_gates_ now_hour_ now_ruling_ now_x_ laws_ru goings_sums_values_ lawsL_codeLength_ lawsL_size_ lawsL_take_ lawsL_fee_ goings_sums_stack_ now_paid_ now_done_ now_lot_ now_born_ now_town_names_ now_town_sizes_ lawsL_kinds_ lawsL_to_ lawsL_from_ lawsL_code_ now_town_heaps_ r2 r3).bind (un9 fun r4 now_x_5 goings_sums_values_6 goings_sums_stack_7 now_paid_8 now_done_9 now_town_names_10 now_town_sizes_11 now_town_heaps_12 =>
      if r4 = (-1) then
        some (.inl (l3, l4 + 1, now_x_5, now_paid_8, now_done_9, now_town_names_10, goings_sums_values_6, now_town_sizes_11, goings_sums_stack_7, now_town_heaps_12))
      else
        some (.inl (l3 + 1, l4 + 1, now_x_5, now_paid_8, now_done_9, now_town_names_10, goings_sums_values_6, now_town_sizes_11, goings_sums_stack_7, now_town_heaps_12)))))
    else
      some (.inl (l3, l4 + 1, now_x_, now_paid_, now_done_, now_town_names_, goings_sums_values_, now_town_sizes_, goings_sums_stack_, now_town_heaps_)))
  else
    some (.inr (l3, now_x_, now_paid_, now_done_, now_town_names_, goings_sums_values_, now_town_sizes_, goings_sums_stack_, now_town_heaps_))
def f_x_gone1 (now_people_ : Int32) (now_gates_ : Int32) (now_hour_ : Int32) (now_texts_ : Int32) (now_ruling_ : Int32) (now_x_ : Int32) (laws_ru : Nat) (lawsL_codeLength_ : Int32) (lawsL_size_ : Int32) (lawsL_take_ : Int32) (lawsL_fee_ : Int32) (now_paid_ : Nat → Int32) (now_done_ : Nat → Int32) (now_lot_ : Nat → Int32) (now_born_ : Nat → Int32) (lawsL_kinds_ : Nat → Int32) (lawsL_from_ : Nat → Int32) (lawsL_to_ : Nat → Int32) (now_town_names_ : Nat → Int32) (goings_sums_values_ : Nat → Int32) (now_town_sizes_ : Nat → Int32) (goings_sums_stack_ : Nat → Int32) (lawsL_code_ : Nat → Int32) (now_town_heaps_ : Nat → Nat → Int32) (l1 : Int32) : Option ((Int32 × Int32 × (Nat → Int32) × (Nat → Int32) × (Nat → Int32) × (Nat → Int32) × (Nat → Int32) × (Nat → Int32) × (Nat → Nat → Int32))) :=
  if l1 < 0 then
    some ((-1), now_x_, now_paid_, now_done_, now_town_names_, goings_sums_values_, now_town_sizes_, goings_sums_stack_, now_town_heaps_)
  else
    if l1 < now_texts_ then
      if l1 < 4 then
        if inb l1 4 then
          if ix l1 = laws_ru then
            (itr (un10 (fb_x_gone1_38 now_people_ now_gates_ now_hour_ now_ruling_ laws_ru lawsL_codeLength_ lawsL_size_ lawsL_take_ lawsL_fee_ now_lot_ now_born_ lawsL_kinds_ lawsL_from_ lawsL_to_ lawsL_code_)) KF (0, 0, now_x_, now_paid_, now_done_, now_town_names_, goings_sums_values_, now_town_sizes_, goings_sums_stack_, now_town_heaps_)).bind
              (un9 fun l3_17 now_x_18 now_paid_19 now_done_20 now_town_names_21 goings_sums_values_22 now_town_sizes_23 goings_sums_stack_24 now_town_heaps_25 =>
                some (l3_17, now_x_18, now_paid_19, now_done_20, now_town_names_21, goings_sums_values_22, now_town_sizes_23, goings_sums_stack_24, now_town_heaps_25)
              )
          else none
        else none
      else
        some ((-1), now_x_, now_paid_, now_done_, now_town_names_, goings_sums_values_, now_town_sizes_, goings_sums_stack_, now_town_heaps_)
    else
      some ((-1), now_x_, now_paid_, now_done_, now_town_names_, goings_sums_values_, now_town_sizes_, goings_sums_stack_, now_town_heaps_)
def fb_x_gone2_38 (now_people_ : Int32) (now_gates_ : Int32) (now_hour_ : Int32) (now_ruling_ : Int32) (laws_ru : Nat) (lawsT_size_ : Int32) (lawsL_codeLength_ : Int32) (lawsL_size_ : Int32) (lawsL_take_ : Int32) (lawsL_fee_ : Int32) (now_lot_ : Nat → Int32) (now_born_ : Nat → Int32) (lawsT_kinds_ : Nat → Int32) (lawsT_from_ : Nat → Int32) (lawsT_to_ : Nat → Int32) (lawsL_kinds_ : Nat → Int32) (lawsL_to_ : Nat → Int32) (lawsL_from_ : Nat → Int32) (lawsL_code_ : Nat → Int32) (l3 : Int32) (l4 : Int32) (now_x_ : Int32) (now_paid_ : Nat → Int32) (now_done_ : Nat → Int32) (now_town_names_ : Nat → Int32) (goings_sums_values_ : Nat → Int32) (now_town_sizes_ : Nat → Int32) (goings_sums_stack_ : Nat → Int32) (now_town_heaps_ : Nat → Nat → Int32) : Option ((Int32 × Int32 × Int32 × (Nat → Int32) × (Nat → Int32) × (Nat → Int32) × (Nat → Int32) × (Nat → Int32) × (Nat → Int32) × (Nat → Nat → Int32)) ⊕ (Int32 × Int32 × (Nat → Int32) × (Nat → Int32) × (Nat → Int32) × (Nat → Int32) × (Nat → Int32) × (Nat → Int32) × (Nat → Nat → Int32))) :=
  if l4 < lawsT_size_ then
    (f_law_kindOf lawsT_size_ lawsT_kinds_ l4).bind (fun r1 =>
    if r1 = 23 then
      (f_law_fromOf lawsT_size_ lawsT_from_ l4).bind (fun r2 =>
      (f_law_toOf lawsT_size_ lawsT_to_ l4).bind (fun r3 =>
      (f_go_doNow now_people_ now_gates_ now_hour_ now_ruling_ now_x_ laws_ru goings_sums_values_ lawsL_codeLength_ lawsL_size_ lawsL_take_ lawsL_fee_ goings_sums_stack_ now_paid_ now_done_ now_lot_ now_born_ now_town_names_ now_town_sizes_ lawsL_kinds_ lawsL_to_ lawsL_from_ lawsL_code_ now_town_heaps_ r2 r3).bind (un9 fun r4 now_x_5 goings_sums_values_6 goings_sums_stack_7 now_paid_8 now_done_9 now_town_names_10 now_town_sizes_11 now_town_heaps_12 =>
      if r4 = (-1) then
        some (.inl (l3, l4 + 1, now_x_5, now_paid_8, now_done_9, now_town_names_10, goings_sums_values_6, now_town_sizes_11, goings_sums_stack_7, now_town_heaps_12))
      else
        some (.inl (l3 + 1, l4 + 1, now_x_5, now_paid_8, now_done_9, now_town_names_10, goings_sums_values_6, now_town_sizes_11, goings_sums_stack_7, now_town_heaps_12)))))
    else
      some (.inl (l3, l4 + 1, now_x_, now_paid_, now_done_, now_town_names_, goings_sums_values_, now_town_sizes_, goings_sums_stack_, now_town_heaps_)))
  else
    some (.inr (l3, now_x_, now_paid_, now_done_, now_town_names_, goings_sums_values_, now_town_sizes_, goings_sums_stack_, now_town_heaps_))
def f_x_gone2 (now_people_ : Int32) (now_gates_ : Int32) (now_hour_ : Int32) (now_texts_ : Int32) (now_ruling_ : Int32) (now_x_ : Int32) (laws_ru : Nat) (laws_rt : Nat) (lawsT_size_ : Int32) (lawsL_codeLength_ : Int32) (lawsL_size_ : Int32) (lawsL_take_ : Int32) (lawsL_fee_ : Int32) (now_paid_ : Nat → Int32) (now_done_ : Nat → Int32) (now_lot_ : Nat → Int32) (now_born_ : Nat → Int32) (lawsT_kinds_ : Nat → Int32) (lawsT_from_ : Nat → Int32) (lawsT_to_ : Nat → Int32) (now_town_names_ : Nat → Int32) (goings_sums_values_ : Nat → Int32) (now_town_sizes_ : Nat → Int32) (lawsL_kinds_ : Nat → Int32) (lawsL_to_ : Nat → Int32) (lawsL_from_ : Nat → Int32) (goings_sums_stack_ : Nat → Int32) (lawsL_code_ : Nat → Int32) (now_town_heaps_ : Nat → Nat → Int32) (l1 : Int32) : Option ((Int32 × Int32 × (Nat → Int32) × (Nat → Int32) × (Nat → Int32) × (Nat → Int32) × (Nat → Int32) × (Nat → Int32) × (Nat → Nat → Int32))) :=
  if l1 < 0 then
    some ((-1), now_x_, now_paid_, now_done_, now_town_names_, goings_sums_values_, now_town_sizes_, goings_sums_stack_, now_town_heaps_)
  else
    if l1 < now_texts_ then
      if l1 < 4 then
        if inb l1 4 then
          if ix l1 = laws_rt then
            (itr (un10 (fb_x_gone2_38 now_people_ now_gates_ now_hour_ now_ruling_ laws_ru lawsT_size_ lawsL_codeLength_ lawsL_size_ lawsL_take_ lawsL_fee_ now_lot_ now_born_ lawsT_kinds_ lawsT_from_ lawsT_to_ lawsL_kinds_ lawsL_to_ lawsL_from_ lawsL_code_)) KF (0, 0, now_x_, now_paid_, now_done_, now_town_names_, goings_sums_values_, now_town_sizes_, goings_sums_stack_, now_town_heaps_)).bind
              (un9 fun l3_17 now_x_18 now_paid_19 now_done_20 now_town_names_21 goings_sums_values_22 now_town_sizes_23 goings_sums_stack_24 now_town_heaps_25 =>
                some (l3_17, now_x_18, now_paid_19, now_done_20, now_town_names_21, goings_sums_values_22, now_town_sizes_23, goings_sums_stack_24, now_town_heaps_25)
              )
          else none
        else none
      else
        some ((-1), now_x_, now_paid_, now_done_, now_town_names_, goings_sums_values_, now_town_sizes_, goings_sums_stack_, now_town_heaps_)
    else
      some ((-1), now_x_, now_paid_, now_done_, now_town_names_, goings_sums_values_, now_town_sizes_, goings_sums_stack_, now_town_heaps_)
def f_x_go (now_people_ : Int32) (now_gates_ : Int32) (now_hour_ : Int32) (now_ruling_ : Int32) (now_x_ : Int32) (laws_ru : Nat) (lawsL_codeLength_ : Int32) (lawsL_size_ : Int32) (lawsL_take_ : Int32) (lawsL_fee_ : Int32) (now_paid_ : Nat → Int32) (now_done_ : Nat → Int32) (now_lot_ : Nat → Int32) (now_born_ : Nat → Int32) (now_town_names_ : Nat → Int32) (goings_sums_values_ : Nat → Int32) (now_town_sizes_ : Nat → Int32) (lawsL_kinds_ : Nat → Int32) (lawsL_to_ : Nat → Int32) (lawsL_from_ : Nat → Int32) (goings_sums_stack_ : Nat → Int32) (lawsL_code_ : Nat → Int32) (now_town_heaps_ : Nat → Nat → Int32) (l1 : Int32) (l2 : Int32) : Option ((Int32 × Int32 × (Nat → Int32) × (Nat → Int32) × (Nat → Int32) × (Nat → Int32) × (Nat → Int32) × (Nat → Int32) × (Nat → Nat → Int32))) :=
  (f_go_doNow now_people_ now_gates_ now_hour_ now_ruling_ now_x_ laws_ru goings_sums_values_ lawsL_codeLength_ lawsL_size_ lawsL_take_ lawsL_fee_ goings_sums_stack_ now_paid_ now_done_ now_lot_ now_born_ now_town_names_ now_town_sizes_ lawsL_kinds_ lawsL_to_ lawsL_from_ lawsL_code_ now_town_heaps_ l1 l2).bind (un9 fun r1 now_x_2 goings_sums_values_3 goings_sums_stack_4 now_paid_5 now_done_6 now_town_names_7 now_town_sizes_8 now_town_heaps_9 =>
  some (r1, now_x_2, now_paid_5, now_done_6, now_town_names_7, goings_sums_values_3, now_town_sizes_8, goings_sums_stack_4, now_town_heaps_9))
def fj_tri_at_26 (cells_n : Nat) (cells_ : Nat → Int32) (l1 : Int32) (l2 : Int32) (s0 : Int32) : Option (Int32) :=
  if s0 = 0 then
    some (-1)
  else
    if inb ((l1 * 3) + l2) cells_n then
      some (cells_ (ix ((l1 * 3) + l2)))
    else none
def f_tri_at (size_ : Int32) (cells_n : Nat) (cells_ : Nat → Int32) (l1 : Int32) (l2 : Int32) : Option (Int32) :=
  if l1 < 0 then
    fj_tri_at_26 cells_n cells_ l1 l2 0
  else
    if l1 < size_ then
      if l2 < 0 then
        fj_tri_at_26 cells_n cells_ l1 l2 0
      else
        if l2 < 3 then
          fj_tri_at_26 cells_n cells_ l1 l2 1
        else
          fj_tri_at_26 cells_n cells_ l1 l2 0
    else
      fj_tri_at_26 cells_n cells_ l1 l2 0
def fb_world_coinsWhere_5 (deeds_size_ : Int32) (deeds_cells_ : Nat → Int32) (l1 : Int32) (l2 : Int32) (l3 : Int32) (l4 : Int32) : Option ((Int32 × Int32) ⊕ Int32) :=
  if l4 < deeds_size_ then
    (f_tri_at deeds_size_ 60 deeds_cells_ l4 l1).bind (fun r1 =>
    if r1 = l2 then
      (f_tri_at deeds_size_ 60 deeds_cells_ l4 1).bind (fun r2 =>
      some (.inl (l3 + r2, l4 + 1)))
    else
      some (.inl (l3, l4 + 1)))
  else
    some (.inr l3)
def f_world_coinsWhere (deeds_size_ : Int32) (deeds_cells_ : Nat → Int32) (l1 : Int32) (l2 : Int32) : Option (Int32) :=
  (itr (un2 (fb_world_coinsWhere_5 deeds_size_ deeds_cells_ l1 l2)) KF (0, 0)).bind
    (fun l3_5 =>
      some l3_5
    )
def f_world_owedUnder (deeds_size_ : Int32) (deeds_cells_ : Nat → Int32) (l1 : Int32) : Option (Int32) :=
  (f_world_coinsWhere deeds_size_ deeds_cells_ 0 l1).bind (fun r1 =>
  some r1)
def f_world_didBy (deeds_size_ : Int32) (deeds_cells_ : Nat → Int32) (l1 : Int32) : Option (Int32) :=
  (f_world_coinsWhere deeds_size_ deeds_cells_ 2 l1).bind (fun r1 =>
  some r1)
def f_x_of (now_people_ : Int32) (now_born_ : Nat → Int32) (now_deeds_size_ : Int32) (now_done_ : Nat → Int32) (now_paid_ : Nat → Int32) (now_deeds_cells_ : Nat → Int32) (now_town_names_ : Nat → Int32) (l1 : Int32) (l2 : Int32) : Option (Int32) :=
  (f_world_hasPerson now_people_ l1).bind (fun r1 =>
  if r1 = 0 then
    some (-2)
  else
    if l2 = 0 then
      (f_town_nameOf now_town_names_ l1).bind (fun r11 =>
      some r11)
    else
      if l2 = 1 then
        if inb l1 8 then
          some (now_paid_ (ix l1))
        else none
      else
        if l2 = 2 then
          if inb l1 8 then
            some (now_done_ (ix l1))
          else none
        else
          if l2 = 3 then
            (f_town_nameOf now_town_names_ l1).bind (fun r5 =>
            (f_world_owedUnder now_deeds_size_ now_deeds_cells_ r5).bind (fun r6 =>
            some r6))
          else
            if l2 = 4 then
              (f_world_didBy now_deeds_size_ now_deeds_cells_ l1).bind (fun r3 =>
              some r3)
            else
              if l2 = 5 then
                if inb l1 8 then
                  if (now_born_ (ix l1)) = 0 then
                    some 0
                  else
                    some 1
                else none
              else
                some (-2))
def f_x_isName (l0 : Int32) : Option (Int32) :=
  if l0 < 0 then
    some 0
  else
    if l0 < 8 then
      some 1
    else
      some 0
def fb_town_holderOf_2 (names_ : Nat → Int32) (l1 : Int32) (l2 : Int32) : Option (Int32 ⊕ (Int32 ⊕ Unit)) :=
  if l2 < 8 then
    if inb l2 8 then
      if (names_ (ix l2)) = l1 then
        some (.inr (.inl l2))
      else
        some (.inl (l2 + 1))
    else none
  else
    some (.inr (.inr (())))
def f_town_holderOf (names_ : Nat → Int32) (l1 : Int32) : Option (Int32) :=
  (itr (fb_town_holderOf_2 names_ l1) KF 0).bind
    (Sum.elim
      (fun l2_2 =>
        some l2_2
      )
      (fun _ =>
        some (-1)
      )
    )
def f_x_called (now_town_names_ : Nat → Int32) (l1 : Int32) : Option (Int32) :=
  (f_x_isName l1).bind (fun r1 =>
  if r1 = 0 then
    some (-1)
  else
    (f_town_holderOf now_town_names_ l1).bind (fun r2 =>
    some r2))
def f_x_heap (now_gates_ : Int32) (now_town_sizes_ : Nat → Int32) (now_town_heaps_ : Nat → Nat → Int32) (l1 : Int32) (l2 : Int32) : Option (Int32) :=
  (f_world_hasGate now_gates_ l1).bind (fun r1 =>
  if r1 = 0 then
    some (-1)
  else
    if l2 = (-1) then
      (f_town_sizeOf now_town_sizes_ l1).bind (fun r4 =>
      some r4)
    else
      (f_town_nameAt now_town_sizes_ now_town_heaps_ l1 l2).bind (fun r2 =>
      some r2))
def f_tri_add (size_ : Int32) (cells_n : Nat) (cells_ : Nat → Int32) (l1 : Int32) (l2 : Int32) (l3 : Int32) : Option ((Int32 × Int32 × (Nat → Int32))) :=
  if (size_ * 3) < 0 then
    some ((-1), size_, cells_)
  else
    if (Int32.ofNat cells_n) < ((size_ * 3) + 3) then
      some ((-1), size_, cells_)
    else
      if inb (size_ * 3) cells_n then
        bnd (upd cells_ (ix (size_ * 3)) l1 : Nat → Int32) fun cells_2 =>
        if inb ((size_ * 3) + 1) cells_n then
          bnd (upd cells_2 (ix ((size_ * 3) + 1)) l2 : Nat → Int32) fun cells_4 =>
          if inb ((size_ * 3) + 2) cells_n then
            bnd (upd cells_4 (ix ((size_ * 3) + 2)) l3 : Nat → Int32) fun cells_6 =>
            some (size_ + 1, size_ + 1, cells_6)
          else none
        else none
      else none
def f_x_deed (now_deeds_size_ : Int32) (now_town_names_ : Nat → Int32) (now_deeds_cells_ : Nat → Int32) (l1 : Int32) (l2 : Int32) : Option ((Int32 × Int32 × (Nat → Int32))) :=
  (f_x_isName l1).bind (fun r1 =>
  if r1 = 0 then
    some ((-1), now_deeds_size_, now_deeds_cells_)
  else
    if l2 < 1 then
      some ((-1), now_deeds_size_, now_deeds_cells_)
    else
      if 999 < l2 then
        some ((-1), now_deeds_size_, now_deeds_cells_)
      else
        (f_town_holderOf now_town_names_ l1).bind (fun r2 =>
        if r2 = (-1) then
          some ((-1), now_deeds_size_, now_deeds_cells_)
        else
          (f_tri_add now_deeds_size_ 60 now_deeds_cells_ l1 l2 r2).bind (un3 fun r3 now_deeds_size_4 now_deeds_cells_5 =>
          some (r3, now_deeds_size_4, now_deeds_cells_5))))
def f_x_owes (now_deeds_size_ : Int32) (now_deeds_cells_ : Nat → Int32) (l1 : Int32) : Option (Int32) :=
  (f_x_isName l1).bind (fun r1 =>
  if r1 = 0 then
    some (-1)
  else
    (f_world_owedUnder now_deeds_size_ now_deeds_cells_ l1).bind (fun r2 =>
    some r2))
def f_x_row (now_people_ : Int32) (now_gates_ : Int32) (now_row_size_ : Int32) (now_row_cells_ : Nat → Int32) (l1 : Int32) (l2 : Int32) : Option ((Int32 × Int32 × (Nat → Int32))) :=
  if l1 = (-1) then
    some (0, 0, now_row_cells_)
  else
    (f_world_hasPerson now_people_ l1).bind (fun r1 =>
    if r1 = 0 then
      some ((-1), now_row_size_, now_row_cells_)
    else
      (f_world_hasGate now_gates_ l2).bind (fun r2 =>
      if r2 = 0 then
        some ((-1), now_row_size_, now_row_cells_)
      else
        (f_tri_add now_row_size_ 36 now_row_cells_ l1 l2 0).bind (un3 fun r3 now_row_size_4 now_row_cells_5 =>
        some (r3, now_row_size_4, now_row_cells_5))))
def fb_town_copyFrom_31 (p1_heaps_ : Nat → Nat → Int32) (l2 : Int32) (heaps_ : Nat → Nat → Int32) : Option ((Int32 × (Nat → Nat → Int32)) ⊕ (Nat → Nat → Int32)) :=
  if l2 < 3 then
    if inb l2 3 then
      if inb l2 3 then
        bnd (setR heaps_ (ix l2) (va_cpy (p1_heaps_ (ix l2)) (heaps_ (ix l2)) 0 0 8) : Nat → Nat → Int32) fun heaps_5 =>
        some (.inl (l2 + 1, heaps_5))
      else none
    else none
  else
    some (.inr heaps_)
def f_town_copyFrom (names_ : Nat → Int32) (sizes_ : Nat → Int32) (heaps_ : Nat → Nat → Int32) (p1_names_ : Nat → Int32) (p1_sizes_ : Nat → Int32) (p1_heaps_ : Nat → Nat → Int32) : Option (((Nat → Int32) × (Nat → Int32) × (Nat → Nat → Int32))) :=
  bnd (va_cpy p1_names_ names_ 0 0 8 : Nat → Int32) fun names_1 =>
  bnd (va_cpy p1_sizes_ sizes_ 0 0 3 : Nat → Int32) fun sizes_2 =>
  (itr (un2 (fb_town_copyFrom_31 p1_heaps_)) KF (0, heaps_)).bind
    (fun heaps_6 =>
      some (names_1, sizes_2, heaps_6)
    )
def f_go_doTried (world_people_ : Int32) (world_gates_ : Int32) (world_hour_ : Int32) (world_ruling_ : Int32) (laws_ru : Nat) (sums_values_ : Nat → Int32) (lawsL_codeLength_ : Int32) (lawsL_size_ : Int32) (lawsL_take_ : Int32) (sums_stack_ : Nat → Int32) (world_lot_ : Nat → Int32) (world_born_ : Nat → Int32) (lawsL_kinds_ : Nat → Int32) (lawsL_to_ : Nat → Int32) (lawsL_from_ : Nat → Int32) (lawsL_code_ : Nat → Int32) (p1_names_ : Nat → Int32) (p1_sizes_ : Nat → Int32) (p1_heaps_ : Nat → Nat → Int32) (l2 : Int32) (l3 : Int32) : Option ((Int32 × (Nat → Int32) × (Nat → Int32) × (Nat → Int32) × (Nat → Int32) × (Nat → Nat → Int32))) :=
  (f_go_canBe world_people_ world_gates_ world_hour_ world_ruling_ laws_ru sums_values_ lawsL_codeLength_ lawsL_size_ sums_stack_ lawsL_kinds_ lawsL_to_ lawsL_from_ lawsL_code_ p1_names_ p1_sizes_ l2 l3).bind (un3 fun r1 sums_values_2 sums_stack_3 =>
  if r1 = 0 then
    some ((-1), sums_values_2, sums_stack_3, p1_names_, p1_sizes_, p1_heaps_)
  else
    (f_town_nameOf p1_names_ l2).bind (fun r4 =>
    if r4 = (-1) then
      if inb l3 3 then
        if (world_lot_ (ix l3)) = 0 then
          (f_go_placeFor world_hour_ world_ruling_ laws_ru lawsL_codeLength_ lawsL_size_ lawsL_take_ sums_values_2 sums_stack_3 world_born_ lawsL_to_ lawsL_from_ lawsL_code_ p1_sizes_ p1_names_ p1_heaps_ l2 l3).bind (un3 fun r6 sums_values_7 sums_stack_8 =>
          (f_town_enter p1_sizes_ p1_heaps_ p1_names_ l2 l3 r6).bind (un4 fun r9 p1_sizes_10 p1_heaps_11 p1_names_12 =>
          some (r9, sums_values_7, sums_stack_8, p1_names_12, p1_sizes_10, p1_heaps_11)))
        else
          some ((-1), sums_values_2, sums_stack_3, p1_names_, p1_sizes_, p1_heaps_)
      else none
    else
      (f_town_leave p1_names_ p1_sizes_ p1_heaps_ l2 l3).bind (un4 fun r15 p1_names_16 p1_sizes_17 p1_heaps_18 =>
      some (r15, sums_values_2, sums_stack_3, p1_names_16, p1_sizes_17, p1_heaps_18))))
def fb_go_judgeRow_16 (world_people_ : Int32) (world_gates_ : Int32) (world_hour_ : Int32) (world_ruling_ : Int32) (laws_ru : Nat) (world_row_size_ : Int32) (lawsL_codeLength_ : Int32) (lawsL_size_ : Int32) (lawsL_take_ : Int32) (world_lot_ : Nat → Int32) (world_born_ : Nat → Int32) (world_row_cells_ : Nat → Int32) (lawsL_kinds_ : Nat → Int32) (lawsL_to_ : Nat → Int32) (lawsL_from_ : Nat → Int32) (lawsL_code_ : Nat → Int32) (l1 : Int32) (tried_names_ : Nat → Int32) (tried_sizes_ : Nat → Int32) (tried_heaps_ : Nat → Nat → Int32) (sums_values_ : Nat → Int32) (sums_stack_ : Nat → Int32) : Option ((Int32 × (Nat → Int32) × (Nat → Int32) × (Nat → Nat → Int32) × (Nat → Int32) × (Nat → Int32)) ⊕ ((Int32 × (Nat → Int32) × (Nat → Int32) × (Nat → Nat → Int32) × (Nat → Int32) × (Nat → Int32)) ⊕ ((Nat → Int32) × (Nat → Int32) × (Nat → Nat → Int32) × (Nat → Int32) × (Nat → Int32)))) :=
  if l1 < world_row_size_ then
    (f_tri_at world_row_size_ 36 world_row_cells_ l1 0).bind (fun r4 =>
    (f_tri_at world_row_size_ 36 world_row_cells_ l1 1).bind (fun r5 =>
    (f_go_doTried world_people_ world_gates_ world_hour_ world_ruling_ laws_ru sums_values_ lawsL_codeLength_ lawsL_size_ lawsL_take_ sums_stack_ world_lot_ world_born_ lawsL_kinds_ lawsL_to_ lawsL_from_ lawsL_code_ tried_names_ tried_sizes_ tried_heaps_ r4 r5).bind (un6 fun r6 sums_values_7 sums_stack_8 tried_names_9 tried_sizes_10 tried_heaps_11 =>
    if r6 = (-1) then
      some (.inr (.inl (l1, tried_names_9, tried_sizes_10, tried_heaps_11, sums_values_7, sums_stack_8)))
    else
      some (.inl (l1 + 1, tried_names_9, tried_sizes_10, tried_heaps_11, sums_values_7, sums_stack_8)))))
  else
    some (.inr (.inr ((tried_names_, tried_sizes_, tried_heaps_, sums_values_, sums_stack_))))
def f_go_judgeRow (world_people_ : Int32) (world_gates_ : Int32) (world_hour_ : Int32) (world_ruling_ : Int32) (laws_ru : Nat) (tried_names_ : Nat → Int32) (tried_sizes_ : Nat → Int32) (tried_heaps_ : Nat → Nat → Int32) (world_row_size_ : Int32) (sums_values_ : Nat → Int32) (lawsL_codeLength_ : Int32) (lawsL_size_ : Int32) (lawsL_take_ : Int32) (sums_stack_ : Nat → Int32) (world_lot_ : Nat → Int32) (world_born_ : Nat → Int32) (world_town_names_ : Nat → Int32) (world_town_sizes_ : Nat → Int32) (world_town_heaps_ : Nat → Nat → Int32) (world_row_cells_ : Nat → Int32) (lawsL_kinds_ : Nat → Int32) (lawsL_to_ : Nat → Int32) (lawsL_from_ : Nat → Int32) (lawsL_code_ : Nat → Int32) : Option ((Int32 × (Nat → Int32) × (Nat → Int32) × (Nat → Nat → Int32) × (Nat → Int32) × (Nat → Int32))) :=
  (f_town_copyFrom tried_names_ tried_sizes_ tried_heaps_ world_town_names_ world_town_sizes_ world_town_heaps_).bind (un3 fun tried_names_1 tried_sizes_2 tried_heaps_3 =>
  (itr (un6 (fb_go_judgeRow_16 world_people_ world_gates_ world_hour_ world_ruling_ laws_ru world_row_size_ lawsL_codeLength_ lawsL_size_ lawsL_take_ world_lot_ world_born_ world_row_cells_ lawsL_kinds_ lawsL_to_ lawsL_from_ lawsL_code_)) KF (0, tried_names_1, tried_sizes_2, tried_heaps_3, sums_values_, sums_stack_)).bind
    (Sum.elim
      (un6 fun l1_15 tried_names_16 tried_sizes_17 tried_heaps_18 sums_values_19 sums_stack_20 =>
        some (l1_15, tried_names_16, tried_sizes_17, tried_heaps_18, sums_values_19, sums_stack_20)
      )
      (un5 fun tried_names_21 tried_sizes_22 tried_heaps_23 sums_values_24 sums_stack_25 =>
        some ((-1), tried_names_21, tried_sizes_22, tried_heaps_23, sums_values_24, sums_stack_25)
      )
    ))
def f_x_judge (now_people_ : Int32) (now_gates_ : Int32) (now_hour_ : Int32) (now_ruling_ : Int32) (laws_ru : Nat) (now_row_size_ : Int32) (lawsL_codeLength_ : Int32) (lawsL_size_ : Int32) (lawsL_take_ : Int32) (now_lot_ : Nat → Int32) (now_born_ : Nat → Int32) (now_town_names_ : Nat → Int32) (goings_tried_names_ : Nat → Int32) (now_town_sizes_ : Nat → Int32) (goings_tried_sizes_ : Nat → Int32) (now_town_heaps_ : Nat → Nat → Int32) (goings_tried_heaps_ : Nat → Nat → Int32) (now_row_cells_ : Nat → Int32) (goings_sums_values_ : Nat → Int32) (lawsL_kinds_ : Nat → Int32) (lawsL_to_ : Nat → Int32) (lawsL_from_ : Nat → Int32) (goings_sums_stack_ : Nat → Int32) (lawsL_code_ : Nat → Int32) : Option ((Int32 × (Nat → Int32) × (Nat → Int32) × (Nat → Nat → Int32) × (Nat → Int32) × (Nat → Int32))) :=
  (f_go_judgeRow now_people_ now_gates_ now_hour_ now_ruling_ laws_ru goings_tried_names_ goings_tried_sizes_ goings_tried_heaps_ now_row_size_ goings_sums_values_ lawsL_codeLength_ lawsL_size_ lawsL_take_ goings_sums_stack_ now_lot_ now_born_ now_town_names_ now_town_sizes_ now_town_heaps_ now_row_cells_ lawsL_kinds_ lawsL_to_ lawsL_from_ lawsL_code_).bind (un6 fun r1 goings_tried_names_2 goings_tried_sizes_3 goings_tried_heaps_4 goings_sums_values_5 goings_sums_stack_6 =>
  some (r1, goings_tried_names_2, goings_tried_sizes_3, goings_tried_heaps_4, goings_sums_values_5, goings_sums_stack_6))
def f_x_then (now_people_ : Int32) (now_gates_ : Int32) (now_hour_ : Int32) (now_ruling_ : Int32) (laws_ru : Nat) (now_row_size_ : Int32) (lawsL_codeLength_ : Int32) (lawsL_size_ : Int32) (lawsL_take_ : Int32) (now_lot_ : Nat → Int32) (now_born_ : Nat → Int32) (now_town_names_ : Nat → Int32) (goings_tried_names_ : Nat → Int32) (now_town_sizes_ : Nat → Int32) (goings_tried_sizes_ : Nat → Int32) (now_town_heaps_ : Nat → Nat → Int32) (goings_tried_heaps_ : Nat → Nat → Int32) (now_row_cells_ : Nat → Int32) (goings_sums_values_ : Nat → Int32) (lawsL_kinds_ : Nat → Int32) (lawsL_to_ : Nat → Int32) (lawsL_from_ : Nat → Int32) (goings_sums_stack_ : Nat → Int32) (lawsL_code_ : Nat → Int32) (l1 : Int32) : Option ((Int32 × (Nat → Int32) × (Nat → Int32) × (Nat → Nat → Int32) × (Nat → Int32) × (Nat → Int32))) :=
  (f_world_hasPerson now_people_ l1).bind (fun r1 =>
  if r1 = 0 then
    some ((-2), goings_tried_names_, goings_tried_sizes_, goings_tried_heaps_, goings_sums_values_, goings_sums_stack_)
  else
    (f_go_judgeRow now_people_ now_gates_ now_hour_ now_ruling_ laws_ru goings_tried_names_ goings_tried_sizes_ goings_tried_heaps_ now_row_size_ goings_sums_values_ lawsL_codeLength_ lawsL_size_ lawsL_take_ goings_sums_stack_ now_lot_ now_born_ now_town_names_ now_town_sizes_ now_town_heaps_ now_row_cells_ lawsL_kinds_ lawsL_to_ lawsL_from_ lawsL_code_).bind (un6 fun r2 goings_tried_names_3 goings_tried_sizes_4 goings_tried_heaps_5 goings_sums_values_6 goings_sums_stack_7 =>
    if r2 = (-1) then
      (f_town_nameOf goings_tried_names_3 l1).bind (fun r8 =>
      some (r8, goings_tried_names_3, goings_tried_sizes_4, goings_tried_heaps_5, goings_sums_values_6, goings_sums_stack_7))
    else
      some ((-2), goings_tried_names_3, goings_tried_sizes_4, goings_tried_heaps_5, goings_sums_values_6, goings_sums_stack_7)))
def f_x_isNameOrNone (l0 : Int32) : Option (Int32) :=
  if l0 = (-1) then
    some 1
  else
    (f_x_isName l0).bind (fun r1 =>
    if r1 = 0 then
      some 0
    else
      some 1)
def f_odds_isOfLot (world_gates_ : Int32) (world_lot_ : Nat → Int32) (l1 : Int32) : Option (Int32) :=
  (f_world_hasGate world_gates_ l1).bind (fun r1 =>
  if r1 = 0 then
    some 0
  else
    if inb l1 3 then
      if (world_lot_ (ix l1)) = 0 then
        some 0
      else
        some 1
    else none)
def fb_odds_lotsOfRow_4 (world_gates_ : Int32) (world_row_size_ : Int32) (world_lot_ : Nat → Int32) (world_row_cells_ : Nat → Int32) (l1 : Int32) (l2 : Int32) : Option ((Int32 × Int32) ⊕ Int32) :=
  if l2 < world_row_size_ then
    (f_tri_at world_row_size_ 36 world_row_cells_ l2 1).bind (fun r1 =>
    (f_odds_isOfLot world_gates_ world_lot_ r1).bind (fun r2 =>
    if r2 = 0 then
      some (.inl (l1, l2 + 1))
    else
      some (.inl (l1 + 1, l2 + 1))))
  else
    some (.inr l1)
def f_odds_lotsOfRow (world_gates_ : Int32) (world_row_size_ : Int32) (world_lot_ : Nat → Int32) (world_row_cells_ : Nat → Int32) : Option (Int32) :=
  (itr (un2 (fb_odds_lotsOfRow_4 world_gates_ world_row_size_ world_lot_ world_row_cells_)) KF (0, 0)).bind
    (fun l1_5 =>
      some l1_5
    )
def fb_town_packed_4 (names_ : Nat → Int32) (l1 : Int64) (l3 : Int32) : Option ((Int64 × Int32) ⊕ Int64) :=
  if l3 < 8 then
    if inb l3 8 then
      if (names_ (ix l3)) = (-1) then
        some (.inl (l1, l3 + 1))
      else
        if inb l3 8 then
          bnd (l1 ||| (((1 + l3).toInt64) <<< ((6 * (names_ (ix l3))).toInt64 &&& 63)) : Int64) fun t3 =>
          some (.inl (t3, l3 + 1))
        else none
    else none
  else
    some (.inr l1)
def fb_town_packed_53 (sizes_ : Nat → Int32) (heaps_ : Nat → Nat → Int32) (l3 : Int32) (l1 : Int64) (l4 : Int32) : Option ((Int64 × Int32) ⊕ Int64) :=
  if inb l3 3 then
    if l4 < (sizes_ (ix l3)) then
      if inb l3 3 then
        if inb l4 8 then
          bnd (l1 ||| ((((9 + (l3 * 8)) + l4).toInt64) <<< ((6 * (heaps_ (ix l3) (ix l4))).toInt64 &&& 63)) : Int64) fun t8 =>
          some (.inl (t8, l4 + 1))
        else none
      else none
    else
      some (.inr l1)
  else none
def fb_town_packed_45 (sizes_ : Nat → Int32) (heaps_ : Nat → Nat → Int32) (l1 : Int64) (l3 : Int32) : Option ((Int64 × Int32) ⊕ Int64) :=
  if l3 < 3 then
    (itr (un2 (fb_town_packed_53 sizes_ heaps_ l3)) KF (l1, 0)).bind
      (fun l1_9 =>
        some (.inl (l1_9, l3 + 1))
      )
  else
    some (.inr l1)
def f_town_packed (sizes_ : Nat → Int32) (heaps_ : Nat → Nat → Int32) (names_ : Nat → Int32) : Option (Int64) :=
  (itr (un2 (fb_town_packed_4 names_)) KF (0, 0)).bind
    (fun l1_4 =>
      (itr (un2 (fb_town_packed_45 sizes_ heaps_)) KF (l1_4, 0)).bind
        (fun l1_10 =>
          some l1_10
        )
    )
def fj_town_unpack_91_18 (names_ : Nat → Int32) (sizes_ : Nat → Int32) (heaps_ : Nat → Nat → Int32) (l1 : Int64) (l3 : Int32) (l4 : Int32) : Option ((Int32 × (Nat → Int32) × (Nat → Int32) × (Nat → Nat → Int32)) ⊕ ((Nat → Int32) × (Nat → Int32) × (Nat → Nat → Int32))) :=
  if l4 < 1 then
    some (.inl (l3 + 1, names_, sizes_, heaps_))
  else
    if l4 < 9 then
      if inb (l4 - 1) 8 then
        bnd (upd names_ (ix (l4 - 1)) l3 : Nat → Int32) fun names_5 =>
        some (.inl (l3 + 1, names_5, sizes_, heaps_))
      else none
    else
      some (.inl (l3 + 1, names_, sizes_, heaps_))
def fb_town_unpack_18 (l1 : Int64) (l3 : Int32) (names_ : Nat → Int32) (sizes_ : Nat → Int32) (heaps_ : Nat → Nat → Int32) : Option ((Int32 × (Nat → Int32) × (Nat → Int32) × (Nat → Nat → Int32)) ⊕ ((Nat → Int32) × (Nat → Int32) × (Nat → Nat → Int32))) :=
  if l3 < 8 then
    bnd ((((l1.toUInt64 >>> ((6 * l3 : Int32).toInt64.toUInt64 &&& Int64.toUInt64 63)).toInt64).toInt32) &&& 63 : Int32) fun t3 =>
    if t3 < 9 then
      fj_town_unpack_91_18 names_ sizes_ heaps_ l1 l3 t3
    else
      if 32 < t3 then
        fj_town_unpack_91_18 names_ sizes_ heaps_ l1 l3 t3
      else
        if inb ((t3 - 9) / 8) 3 then
          if inb (rem32 (t3 - 9) 8) 8 then
            bnd (setR heaps_ (ix ((t3 - 9) / 8)) (upd (heaps_ (ix ((t3 - 9) / 8))) (ix (rem32 (t3 - 9) 8)) l3) : Nat → Nat → Int32) fun heaps_8 =>
            if inb ((t3 - 9) / 8) 3 then
              if inb ((t3 - 9) / 8) 3 then
                bnd (upd sizes_ (ix ((t3 - 9) / 8)) ((sizes_ (ix ((t3 - 9) / 8))) + 1) : Nat → Int32) fun sizes_11 =>
                some (.inl (l3 + 1, names_, sizes_11, heaps_8))
              else none
            else none
          else none
        else none
  else
    some (.inr (names_, sizes_, heaps_))
def f_town_unpack (names_ : Nat → Int32) (sizes_ : Nat → Int32) (heaps_ : Nat → Nat → Int32) (l1 : Int64) : Option (((Nat → Int32) × (Nat → Int32) × (Nat → Nat → Int32))) :=
  (f_arr_fill_II 8 names_ (-1)).bind (fun names_1 =>
  (f_arr_fill_II 3 sizes_ 0).bind (fun sizes_2 =>
  (itr (un4 (fb_town_unpack_18 l1)) KF (0, names_1, sizes_2, heaps_)).bind
    (un3 fun names_12 sizes_13 heaps_14 =>
      some (names_12, sizes_13, heaps_14)
    )))
def fj_odds_sumFrom_20 (F_odds_sumFrom : Int32 → Int32 → Int32 → Int32 → Int32 → Int32 → Int32 → (Nat → Int32) → (Nat → Int32) → Nat → (Nat → Int32) → (Nat → Nat → Int32) → (Nat → Int32) → (Nat → Int32) → (Nat → Int32) → Int32 → Int32 → Int32 → (Nat → Int32) → (Nat → Int32) → (Nat → Int32) → (Nat → Int32) → (Nat → Int32) → Int32 → Int64 → Option ((Int64 × (Nat → Int32) × (Nat → Int32) × (Nat → Nat → Int32) × (Nat → Int32) × (Nat → Int32)))) (F_odds_sumOfLot : Int32 → Int32 → Int32 → Int32 → Int32 → Int32 → Int32 → (Nat → Int32) → (Nat → Int32) → (Nat → Int32) → Nat → (Nat → Nat → Int32) → (Nat → Int32) → (Nat → Int32) → (Nat → Int32) → Int32 → Int32 → Int32 → (Nat → Int32) → (Nat → Int32) → (Nat → Int32) → (Nat → Int32) → (Nat → Int32) → Int32 → Int64 → Option ((Int64 × (Nat → Int32) × (Nat → Int32) × (Nat → Nat → Int32) × (Nat → Int32) × (Nat → Int32)))) (who_ : Int32) (name_ : Int32) (town_names_ : Nat → Int32) (town_sizes_ : Nat → Int32) (town_heaps_ : Nat → Nat → Int32) (goings_sums_values_ : Nat → Int32) (goings_sums_stack_ : Nat → Int32) (l2 : Int64) : Option ((Int64 × (Nat → Int32) × (Nat → Int32) × (Nat → Nat → Int32) × (Nat → Int32) × (Nat → Int32))) :=
  (f_town_nameOf town_names_ who_).bind (fun r1 =>
  if r1 = name_ then
    some (l2, town_names_, town_sizes_, town_heaps_, goings_sums_values_, goings_sums_stack_)
  else
    some (0, town_names_, town_sizes_, town_heaps_, goings_sums_values_, goings_sums_stack_))
def fj_odds_sumFrom_101 (F_odds_sumFrom : Int32 → Int32 → Int32 → Int32 → Int32 → Int32 → Int32 → (Nat → Int32) → (Nat → Int32) → Nat → (Nat → Int32) → (Nat → Nat → Int32) → (Nat → Int32) → (Nat → Int32) → (Nat → Int32) → Int32 → Int32 → Int32 → (Nat → Int32) → (Nat → Int32) → (Nat → Int32) → (Nat → Int32) → (Nat → Int32) → Int32 → Int64 → Option ((Int64 × (Nat → Int32) × (Nat → Int32) × (Nat → Nat → Int32) × (Nat → Int32) × (Nat → Int32)))) (F_odds_sumOfLot : Int32 → Int32 → Int32 → Int32 → Int32 → Int32 → Int32 → (Nat → Int32) → (Nat → Int32) → (Nat → Int32) → Nat → (Nat → Nat → Int32) → (Nat → Int32) → (Nat → Int32) → (Nat → Int32) → Int32 → Int32 → Int32 → (Nat → Int32) → (Nat → Int32) → (Nat → Int32) → (Nat → Int32) → (Nat → Int32) → Int32 → Int64 → Option ((Int64 × (Nat → Int32) × (Nat → Int32) × (Nat → Nat → Int32) × (Nat → Int32) × (Nat → Int32)))) (who_ : Int32) (name_ : Int32) (world_people_ : Int32) (world_gates_ : Int32) (world_hour_ : Int32) (world_ruling_ : Int32) (world_row_size_ : Int32) (town_names_ : Nat → Int32) (world_lot_ : Nat → Int32) (goings_laws_ru : Nat) (town_sizes_ : Nat → Int32) (town_heaps_ : Nat → Nat → Int32) (world_born_ : Nat → Int32) (world_row_cells_ : Nat → Int32) (goings_sums_values_ : Nat → Int32) (goings_lawsL_codeLength_ : Int32) (goings_lawsL_size_ : Int32) (goings_lawsL_take_ : Int32) (goings_sums_stack_ : Nat → Int32) (goings_lawsL_kinds_ : Nat → Int32) (goings_lawsL_to_ : Nat → Int32) (goings_lawsL_from_ : Nat → Int32) (goings_lawsL_code_ : Nat → Int32) (l1 : Int32) (l2 : Int64) (l4 : Int32) (l5 : Int32) : Option ((Int64 × (Nat → Int32) × (Nat → Int32) × (Nat → Nat → Int32) × (Nat → Int32) × (Nat → Int32))) :=
  (f_go_doTried world_people_ world_gates_ world_hour_ world_ruling_ goings_laws_ru goings_sums_values_ goings_lawsL_codeLength_ goings_lawsL_size_ goings_lawsL_take_ goings_sums_stack_ world_lot_ world_born_ goings_lawsL_kinds_ goings_lawsL_to_ goings_lawsL_from_ goings_lawsL_code_ town_names_ town_sizes_ town_heaps_ l4 l5).bind (un6 fun r6 goings_sums_values_7 goings_sums_stack_8 town_names_9 town_sizes_10 town_heaps_11 =>
  (F_odds_sumFrom who_ name_ world_people_ world_gates_ world_hour_ world_ruling_ world_row_size_ town_names_9 world_lot_ goings_laws_ru town_sizes_10 town_heaps_11 world_born_ world_row_cells_ goings_sums_values_7 goings_lawsL_codeLength_ goings_lawsL_size_ goings_lawsL_take_ goings_sums_stack_8 goings_lawsL_kinds_ goings_lawsL_to_ goings_lawsL_from_ goings_lawsL_code_ (l1 + 1) l2).bind (un6 fun r12 town_names_13 town_sizes_14 town_heaps_15 goings_sums_values_16 goings_sums_stack_17 =>
  some (r12, town_names_13, town_sizes_14, town_heaps_15, goings_sums_values_16, goings_sums_stack_17)))
def fR_odds_sumFrom (F_odds_sumFrom : Int32 → Int32 → Int32 → Int32 → Int32 → Int32 → Int32 → (Nat → Int32) → (Nat → Int32) → Nat → (Nat → Int32) → (Nat → Nat → Int32) → (Nat → Int32) → (Nat → Int32) → (Nat → Int32) → Int32 → Int32 → Int32 → (Nat → Int32) → (Nat → Int32) → (Nat → Int32) → (Nat → Int32) → (Nat → Int32) → Int32 → Int64 → Option ((Int64 × (Nat → Int32) × (Nat → Int32) × (Nat → Nat → Int32) × (Nat → Int32) × (Nat → Int32)))) (F_odds_sumOfLot : Int32 → Int32 → Int32 → Int32 → Int32 → Int32 → Int32 → (Nat → Int32) → (Nat → Int32) → (Nat → Int32) → Nat → (Nat → Nat → Int32) → (Nat → Int32) → (Nat → Int32) → (Nat → Int32) → Int32 → Int32 → Int32 → (Nat → Int32) → (Nat → Int32) → (Nat → Int32) → (Nat → Int32) → (Nat → Int32) → Int32 → Int64 → Option ((Int64 × (Nat → Int32) × (Nat → Int32) × (Nat → Nat → Int32) × (Nat → Int32) × (Nat → Int32)))) (who_ : Int32) (name_ : Int32) (world_people_ : Int32) (world_gates_ : Int32) (world_hour_ : Int32) (world_ruling_ : Int32) (world_row_size_ : Int32) (town_names_ : Nat → Int32) (world_lot_ : Nat → Int32) (goings_laws_ru : Nat) (town_sizes_ : Nat → Int32) (town_heaps_ : Nat → Nat → Int32) (world_born_ : Nat → Int32) (world_row_cells_ : Nat → Int32) (goings_sums_values_ : Nat → Int32) (goings_lawsL_codeLength_ : Int32) (goings_lawsL_size_ : Int32) (goings_lawsL_take_ : Int32) (goings_sums_stack_ : Nat → Int32) (goings_lawsL_kinds_ : Nat → Int32) (goings_lawsL_to_ : Nat → Int32) (goings_lawsL_from_ : Nat → Int32) (goings_lawsL_code_ : Nat → Int32) (l1 : Int32) (l2 : Int64) : Option ((Int64 × (Nat → Int32) × (Nat → Int32) × (Nat → Nat → Int32) × (Nat → Int32) × (Nat → Int32))) :=
  if l1 < world_row_size_ then
    if l1 < 12 then
      (f_tri_at world_row_size_ 36 world_row_cells_ l1 0).bind (fun r3 =>
      (f_tri_at world_row_size_ 36 world_row_cells_ l1 1).bind (fun r4 =>
      (f_odds_isOfLot world_gates_ world_lot_ r4).bind (fun r5 =>
      if r5 = 0 then
        fj_odds_sumFrom_101 F_odds_sumFrom F_odds_sumOfLot who_ name_ world_people_ world_gates_ world_hour_ world_ruling_ world_row_size_ town_names_ world_lot_ goings_laws_ru town_sizes_ town_heaps_ world_born_ world_row_cells_ goings_sums_values_ goings_lawsL_codeLength_ goings_lawsL_size_ goings_lawsL_take_ goings_sums_stack_ goings_lawsL_kinds_ goings_lawsL_to_ goings_lawsL_from_ goings_lawsL_code_ l1 l2 r3 r4
      else
        (f_town_nameOf town_names_ r3).bind (fun r20 =>
        if r20 = (-1) then
          (F_odds_sumOfLot who_ name_ world_people_ world_gates_ world_hour_ world_ruling_ world_row_size_ town_sizes_ town_names_ world_lot_ goings_laws_ru town_heaps_ world_born_ world_row_cells_ goings_sums_values_ goings_lawsL_codeLength_ goings_lawsL_size_ goings_lawsL_take_ goings_sums_stack_ goings_lawsL_kinds_ goings_lawsL_to_ goings_lawsL_from_ goings_lawsL_code_ l1 l2).bind (un6 fun r21 town_sizes_22 town_names_23 town_heaps_24 goings_sums_values_25 goings_sums_stack_26 =>
          some (r21, town_names_23, town_sizes_22, town_heaps_24, goings_sums_values_25, goings_sums_stack_26))
        else
          fj_odds_sumFrom_101 F_odds_sumFrom F_odds_sumOfLot who_ name_ world_people_ world_gates_ world_hour_ world_ruling_ world_row_size_ town_names_ world_lot_ goings_laws_ru town_sizes_ town_heaps_ world_born_ world_row_cells_ goings_sums_values_ goings_lawsL_codeLength_ goings_lawsL_size_ goings_lawsL_take_ goings_sums_stack_ goings_lawsL_kinds_ goings_lawsL_to_ goings_lawsL_from_ goings_lawsL_code_ l1 l2 r3 r4))))
    else
      fj_odds_sumFrom_20 F_odds_sumFrom F_odds_sumOfLot who_ name_ town_names_ town_sizes_ town_heaps_ goings_sums_values_ goings_sums_stack_ l2
  else
    fj_odds_sumFrom_20 F_odds_sumFrom F_odds_sumOfLot who_ name_ town_names_ town_sizes_ town_heaps_ goings_sums_values_ goings_sums_stack_ l2
def fj_odds_sumOfLot_62 (F_odds_sumFrom : Int32 → Int32 → Int32 → Int32 → Int32 → Int32 → Int32 → (Nat → Int32) → (Nat → Int32) → Nat → (Nat → Int32) → (Nat → Nat → Int32) → (Nat → Int32) → (Nat → Int32) → (Nat → Int32) → Int32 → Int32 → Int32 → (Nat → Int32) → (Nat → Int32) → (Nat → Int32) → (Nat → Int32) → (Nat → Int32) → Int32 → Int64 → Option ((Int64 × (Nat → Int32) × (Nat → Int32) × (Nat → Nat → Int32) × (Nat → Int32) × (Nat → Int32)))) (F_odds_sumOfLot : Int32 → Int32 → Int32 → Int32 → Int32 → Int32 → Int32 → (Nat → Int32) → (Nat → Int32) → (Nat → Int32) → Nat → (Nat → Nat → Int32) → (Nat → Int32) → (Nat → Int32) → (Nat → Int32) → Int32 → Int32 → Int32 → (Nat → Int32) → (Nat → Int32) → (Nat → Int32) → (Nat → Int32) → (Nat → Int32) → Int32 → Int64 → Option ((Int64 × (Nat → Int32) × (Nat → Int32) × (Nat → Nat → Int32) × (Nat → Int32) × (Nat → Int32)))) (who_ : Int32) (name_ : Int32) (world_people_ : Int32) (world_gates_ : Int32) (world_hour_ : Int32) (world_ruling_ : Int32) (world_row_size_ : Int32) (town_sizes_ : Nat → Int32) (town_names_ : Nat → Int32) (world_lot_ : Nat → Int32) (goings_laws_ru : Nat) (town_heaps_ : Nat → Nat → Int32) (world_born_ : Nat → Int32) (world_row_cells_ : Nat → Int32) (goings_sums_values_ : Nat → Int32) (goings_lawsL_codeLength_ : Int32) (goings_lawsL_size_ : Int32) (goings_lawsL_take_ : Int32) (goings_sums_stack_ : Nat → Int32) (goings_lawsL_kinds_ : Nat → Int32) (goings_lawsL_to_ : Nat → Int32) (goings_lawsL_from_ : Nat → Int32) (goings_lawsL_code_ : Nat → Int32) (l1 : Int32) (l2 : Int64) : Option ((Int64 × (Nat → Int32) × (Nat → Int32) × (Nat → Nat → Int32) × (Nat → Int32) × (Nat → Int32))) :=
  (F_odds_sumFrom who_ name_ world_people_ world_gates_ world_hour_ world_ruling_ world_row_size_ town_names_ world_lot_ goings_laws_ru town_sizes_ town_heaps_ world_born_ world_row_cells_ goings_sums_values_ goings_lawsL_codeLength_ goings_lawsL_size_ goings_lawsL_take_ goings_sums_stack_ goings_lawsL_kinds_ goings_lawsL_to_ goings_lawsL_from_ goings_lawsL_code_ (l1 + 1) l2).bind (un6 fun r4 town_names_5 town_sizes_6 town_heaps_7 goings_sums_values_8 goings_sums_stack_9 =>
  some (r4, town_sizes_6, town_names_5, town_heaps_7, goings_sums_values_8, goings_sums_stack_9))
def fb_odds_sumOfLot_86 (F_odds_sumFrom : Int32 → Int32 → Int32 → Int32 → Int32 → Int32 → Int32 → (Nat → Int32) → (Nat → Int32) → Nat → (Nat → Int32) → (Nat → Nat → Int32) → (Nat → Int32) → (Nat → Int32) → (Nat → Int32) → Int32 → Int32 → Int32 → (Nat → Int32) → (Nat → Int32) → (Nat → Int32) → (Nat → Int32) → (Nat → Int32) → Int32 → Int64 → Option ((Int64 × (Nat → Int32) × (Nat → Int32) × (Nat → Nat → Int32) × (Nat → Int32) × (Nat → Int32)))) (F_odds_sumOfLot : Int32 → Int32 → Int32 → Int32 → Int32 → Int32 → Int32 → (Nat → Int32) → (Nat → Int32) → (Nat → Int32) → Nat → (Nat → Nat → Int32) → (Nat → Int32) → (Nat → Int32) → (Nat → Int32) → Int32 → Int32 → Int32 → (Nat → Int32) → (Nat → Int32) → (Nat → Int32) → (Nat → Int32) → (Nat → Int32) → Int32 → Int64 → Option ((Int64 × (Nat → Int32) × (Nat → Int32) × (Nat → Nat → Int32) × (Nat → Int32) × (Nat → Int32)))) (who_ : Int32) (name_ : Int32) (world_people_ : Int32) (world_gates_ : Int32) (world_hour_ : Int32) (world_ruling_ : Int32) (world_row_size_ : Int32) (world_lot_ : Nat → Int32) (goings_laws_ru : Nat) (world_born_ : Nat → Int32) (world_row_cells_ : Nat → Int32) (goings_lawsL_codeLength_ : Int32) (goings_lawsL_size_ : Int32) (goings_lawsL_take_ : Int32) (goings_lawsL_kinds_ : Nat → Int32) (goings_lawsL_to_ : Nat → Int32) (goings_lawsL_from_ : Nat → Int32) (goings_lawsL_code_ : Nat → Int32) (l1 : Int32) (l2 : Int64) (l4 : Int32) (l5 : Int32) (l6 : Int32) (l7 : Int64) (l9 : Int64) (l11 : Int32) (town_sizes_ : Nat → Int32) (town_names_ : Nat → Int32) (town_heaps_ : Nat → Nat → Int32) (goings_sums_values_ : Nat → Int32) (goings_sums_stack_ : Nat → Int32) : Option ((Int64 × Int32 × (Nat → Int32) × (Nat → Int32) × (Nat → Nat → Int32) × (Nat → Int32) × (Nat → Int32)) ⊕ (Int64 × (Nat → Int32) × (Nat → Int32) × (Nat → Nat → Int32) × (Nat → Int32) × (Nat → Int32))) :=
  if l11 < l6 then
    (f_town_enter town_sizes_ town_heaps_ town_names_ l4 l5 l11).bind (un4 fun r15 town_sizes_16 town_heaps_17 town_names_18 =>
    if ¬ l6.toInt64 = 0 then
      (F_odds_sumFrom who_ name_ world_people_ world_gates_ world_hour_ world_ruling_ world_row_size_ town_names_18 world_lot_ goings_laws_ru town_sizes_16 town_heaps_17 world_born_ world_row_cells_ goings_sums_values_ goings_lawsL_codeLength_ goings_lawsL_size_ goings_lawsL_take_ goings_sums_stack_ goings_lawsL_kinds_ goings_lawsL_to_ goings_lawsL_from_ goings_lawsL_code_ (l1 + 1) (l2 / l6.toInt64)).bind (un6 fun r20 town_names_21 town_sizes_22 town_heaps_23 goings_sums_values_24 goings_sums_stack_25 =>
      (f_town_unpack town_names_21 town_sizes_22 town_heaps_23 l7).bind (un3 fun town_names_26 town_sizes_27 town_heaps_28 =>
      some (.inl (l9 + r20, l11 + 1, town_sizes_27, town_names_26, town_heaps_28, goings_sums_values_24, goings_sums_stack_25))))
    else none)
  else
    some (.inr (l9, town_sizes_, town_names_, town_heaps_, goings_sums_values_, goings_sums_stack_))
def fR_odds_sumOfLot (F_odds_sumFrom : Int32 → Int32 → Int32 → Int32 → Int32 → Int32 → Int32 → (Nat → Int32) → (Nat → Int32) → Nat → (Nat → Int32) → (Nat → Nat → Int32) → (Nat → Int32) → (Nat → Int32) → (Nat → Int32) → Int32 → Int32 → Int32 → (Nat → Int32) → (Nat → Int32) → (Nat → Int32) → (Nat → Int32) → (Nat → Int32) → Int32 → Int64 → Option ((Int64 × (Nat → Int32) × (Nat → Int32) × (Nat → Nat → Int32) × (Nat → Int32) × (Nat → Int32)))) (F_odds_sumOfLot : Int32 → Int32 → Int32 → Int32 → Int32 → Int32 → Int32 → (Nat → Int32) → (Nat → Int32) → (Nat → Int32) → Nat → (Nat → Nat → Int32) → (Nat → Int32) → (Nat → Int32) → (Nat → Int32) → Int32 → Int32 → Int32 → (Nat → Int32) → (Nat → Int32) → (Nat → Int32) → (Nat → Int32) → (Nat → Int32) → Int32 → Int64 → Option ((Int64 × (Nat → Int32) × (Nat → Int32) × (Nat → Nat → Int32) × (Nat → Int32) × (Nat → Int32)))) (who_ : Int32) (name_ : Int32) (world_people_ : Int32) (world_gates_ : Int32) (world_hour_ : Int32) (world_ruling_ : Int32) (world_row_size_ : Int32) (town_sizes_ : Nat → Int32) (town_names_ : Nat → Int32) (world_lot_ : Nat → Int32) (goings_laws_ru : Nat) (town_heaps_ : Nat → Nat → Int32) (world_born_ : Nat → Int32) (world_row_cells_ : Nat → Int32) (goings_sums_values_ : Nat → Int32) (goings_lawsL_codeLength_ : Int32) (goings_lawsL_size_ : Int32) (goings_lawsL_take_ : Int32) (goings_sums_stack_ : Nat → Int32) (goings_lawsL_kinds_ : Nat → Int32) (goings_lawsL_to_ : Nat → Int32) (goings_lawsL_from_ : Nat → Int32) (goings_lawsL_code_ : Nat → Int32) (l1 : Int32) (l2 : Int64) : Option ((Int64 × (Nat → Int32) × (Nat → Int32) × (Nat → Nat → Int32) × (Nat → Int32) × (Nat → Int32))) :=
  (f_tri_at world_row_size_ 36 world_row_cells_ l1 0).bind (fun r1 =>
  (f_tri_at world_row_size_ 36 world_row_cells_ l1 1).bind (fun r2 =>
  (f_town_sizeOf town_sizes_ r2).bind (fun r3 =>
  if 0 < r3 then
    (f_go_canBe world_people_ world_gates_ world_hour_ world_ruling_ goings_laws_ru goings_sums_values_ goings_lawsL_codeLength_ goings_lawsL_size_ goings_sums_stack_ goings_lawsL_kinds_ goings_lawsL_to_ goings_lawsL_from_ goings_lawsL_code_ town_names_ town_sizes_ r1 r2).bind (un3 fun r11 goings_sums_values_12 goings_sums_stack_13 =>
    if r11 = 0 then
      fj_odds_sumOfLot_62 F_odds_sumFrom F_odds_sumOfLot who_ name_ world_people_ world_gates_ world_hour_ world_ruling_ world_row_size_ town_sizes_ town_names_ world_lot_ goings_laws_ru town_heaps_ world_born_ world_row_cells_ goings_sums_values_12 goings_lawsL_codeLength_ goings_lawsL_size_ goings_lawsL_take_ goings_sums_stack_13 goings_lawsL_kinds_ goings_lawsL_to_ goings_lawsL_from_ goings_lawsL_code_ l1 l2
    else
      (f_town_packed town_sizes_ town_heaps_ town_names_).bind (fun r14 =>
      (itr (un7 (fb_odds_sumOfLot_86 F_odds_sumFrom F_odds_sumOfLot who_ name_ world_people_ world_gates_ world_hour_ world_ruling_ world_row_size_ world_lot_ goings_laws_ru world_born_ world_row_cells_ goings_lawsL_codeLength_ goings_lawsL_size_ goings_lawsL_take_ goings_lawsL_kinds_ goings_lawsL_to_ goings_lawsL_from_ goings_lawsL_code_ l1 l2 r1 r2 r3 r14)) KF (0, 0, town_sizes_, town_names_, town_heaps_, goings_sums_values_12, goings_sums_stack_13)).bind
        (un6 fun l9_32 town_sizes_33 town_names_34 town_heaps_35 goings_sums_values_36 goings_sums_stack_37 =>
          some (l9_32, town_sizes_33, town_names_34, town_heaps_35, goings_sums_values_36, goings_sums_stack_37)
        )))
  else
    fj_odds_sumOfLot_62 F_odds_sumFrom F_odds_sumOfLot who_ name_ world_people_ world_gates_ world_hour_ world_ruling_ world_row_size_ town_sizes_ town_names_ world_lot_ goings_laws_ru town_heaps_ world_born_ world_row_cells_ goings_sums_values_ goings_lawsL_codeLength_ goings_lawsL_size_ goings_lawsL_take_ goings_sums_stack_ goings_lawsL_kinds_ goings_lawsL_to_ goings_lawsL_from_ goings_lawsL_code_ l1 l2)))
def FG_odds_sumFrom : Nat → (Int32 → Int32 → Int32 → Int32 → Int32 → Int32 → Int32 → (Nat → Int32) → (Nat → Int32) → Nat → (Nat → Int32) → (Nat → Nat → Int32) → (Nat → Int32) → (Nat → Int32) → (Nat → Int32) → Int32 → Int32 → Int32 → (Nat → Int32) → (Nat → Int32) → (Nat → Int32) → (Nat → Int32) → (Nat → Int32) → Int32 → Int64 → Option ((Int64 × (Nat → Int32) × (Nat → Int32) × (Nat → Nat → Int32) × (Nat → Int32) × (Nat → Int32)))) × (Int32 → Int32 → Int32 → Int32 → Int32 → Int32 → Int32 → (Nat → Int32) → (Nat → Int32) → (Nat → Int32) → Nat → (Nat → Nat → Int32) → (Nat → Int32) → (Nat → Int32) → (Nat → Int32) → Int32 → Int32 → Int32 → (Nat → Int32) → (Nat → Int32) → (Nat → Int32) → (Nat → Int32) → (Nat → Int32) → Int32 → Int64 → Option ((Int64 × (Nat → Int32) × (Nat → Int32) × (Nat → Nat → Int32) × (Nat → Int32) × (Nat → Int32))))
  | 0 => ((fun _ _ _ _ _ _ _ _ _ _ _ _ _ _ _ _ _ _ _ _ _ _ _ _ _ => none), (fun _ _ _ _ _ _ _ _ _ _ _ _ _ _ _ _ _ _ _ _ _ _ _ _ _ => none))
  | n + 1 => ((fR_odds_sumFrom (FG_odds_sumFrom n).1 (FG_odds_sumFrom n).2), (fR_odds_sumOfLot (FG_odds_sumFrom n).1 (FG_odds_sumFrom n).2))
def f_odds_sumFrom (who_ : Int32) (name_ : Int32) (world_people_ : Int32) (world_gates_ : Int32) (world_hour_ : Int32) (world_ruling_ : Int32) (world_row_size_ : Int32) (town_names_ : Nat → Int32) (world_lot_ : Nat → Int32) (goings_laws_ru : Nat) (town_sizes_ : Nat → Int32) (town_heaps_ : Nat → Nat → Int32) (world_born_ : Nat → Int32) (world_row_cells_ : Nat → Int32) (goings_sums_values_ : Nat → Int32) (goings_lawsL_codeLength_ : Int32) (goings_lawsL_size_ : Int32) (goings_lawsL_take_ : Int32) (goings_sums_stack_ : Nat → Int32) (goings_lawsL_kinds_ : Nat → Int32) (goings_lawsL_to_ : Nat → Int32) (goings_lawsL_from_ : Nat → Int32) (goings_lawsL_code_ : Nat → Int32) (l1 : Int32) (l2 : Int64) : Option ((Int64 × (Nat → Int32) × (Nat → Int32) × (Nat → Nat → Int32) × (Nat → Int32) × (Nat → Int32))) := (FG_odds_sumFrom 30).1 who_ name_ world_people_ world_gates_ world_hour_ world_ruling_ world_row_size_ town_names_ world_lot_ goings_laws_ru town_sizes_ town_heaps_ world_born_ world_row_cells_ goings_sums_values_ goings_lawsL_codeLength_ goings_lawsL_size_ goings_lawsL_take_ goings_sums_stack_ goings_lawsL_kinds_ goings_lawsL_to_ goings_lawsL_from_ goings_lawsL_code_ l1 l2
def f_odds_sumOfLot (who_ : Int32) (name_ : Int32) (world_people_ : Int32) (world_gates_ : Int32) (world_hour_ : Int32) (world_ruling_ : Int32) (world_row_size_ : Int32) (town_sizes_ : Nat → Int32) (town_names_ : Nat → Int32) (world_lot_ : Nat → Int32) (goings_laws_ru : Nat) (town_heaps_ : Nat → Nat → Int32) (world_born_ : Nat → Int32) (world_row_cells_ : Nat → Int32) (goings_sums_values_ : Nat → Int32) (goings_lawsL_codeLength_ : Int32) (goings_lawsL_size_ : Int32) (goings_lawsL_take_ : Int32) (goings_sums_stack_ : Nat → Int32) (goings_lawsL_kinds_ : Nat → Int32) (goings_lawsL_to_ : Nat → Int32) (goings_lawsL_from_ : Nat → Int32) (goings_lawsL_code_ : Nat → Int32) (l1 : Int32) (l2 : Int64) : Option ((Int64 × (Nat → Int32) × (Nat → Int32) × (Nat → Nat → Int32) × (Nat → Int32) × (Nat → Int32))) := (FG_odds_sumFrom 30).2 who_ name_ world_people_ world_gates_ world_hour_ world_ruling_ world_row_size_ town_sizes_ town_names_ world_lot_ goings_laws_ru town_heaps_ world_born_ world_row_cells_ goings_sums_values_ goings_lawsL_codeLength_ goings_lawsL_size_ goings_lawsL_take_ goings_sums_stack_ goings_lawsL_kinds_ goings_lawsL_to_ goings_lawsL_from_ goings_lawsL_code_ l1 l2
def fb_odds_commonDivisor_9 (l4 : Int64) (l6 : Int64) (l8 : Int32) : Option ((Int64 × Int64 × Int32) ⊕ Int64) :=
  if l8 < 200 then
    if (lg_cmp l6 0) = 0 then
      some (.inr l4)
    else
      if ¬ l6 = 0 then
        some (.inl (l6, rem64 l4 l6, l8 + 1))
      else none
  else
    some (.inr l4)
def f_odds_commonDivisor (l0 : Int64) (l2 : Int64) : Option (Int64) :=
  (itr (un3 fb_odds_commonDivisor_9) KF (l2, l0, 0)).bind
    (fun l4_2 =>
      some l4_2
    )
def f_odds_reckon (who_ : Int32) (name_ : Int32) (upper_ : Int64) (lower_ : Int64) (world_people_ : Int32) (world_gates_ : Int32) (world_hour_ : Int32) (world_ruling_ : Int32) (town_names_ : Nat → Int32) (town_sizes_ : Nat → Int32) (town_heaps_ : Nat → Nat → Int32) (world_row_size_ : Int32) (world_lot_ : Nat → Int32) (goings_laws_ru : Nat) (world_born_ : Nat → Int32) (world_town_names_ : Nat → Int32) (world_town_sizes_ : Nat → Int32) (world_town_heaps_ : Nat → Nat → Int32) (world_row_cells_ : Nat → Int32) (goings_sums_values_ : Nat → Int32) (goings_lawsL_codeLength_ : Int32) (goings_lawsL_size_ : Int32) (goings_lawsL_take_ : Int32) (goings_sums_stack_ : Nat → Int32) (goings_lawsL_kinds_ : Nat → Int32) (goings_lawsL_to_ : Nat → Int32) (goings_lawsL_from_ : Nat → Int32) (goings_lawsL_code_ : Nat → Int32) (l1 : Int32) (l2 : Int32) : Option ((Int32 × Int32 × Int64 × Int64 × (Nat → Int32) × (Nat → Int32) × (Nat → Nat → Int32) × (Nat → Int32) × (Nat → Int32))) :=
  (f_town_copyFrom town_names_ town_sizes_ town_heaps_ world_town_names_ world_town_sizes_ world_town_heaps_).bind (un3 fun town_names_1 town_sizes_2 town_heaps_3 =>
  (f_odds_sumFrom l1 l2 world_people_ world_gates_ world_hour_ world_ruling_ world_row_size_ town_names_1 world_lot_ goings_laws_ru town_sizes_2 town_heaps_3 world_born_ world_row_cells_ goings_sums_values_ goings_lawsL_codeLength_ goings_lawsL_size_ goings_lawsL_take_ goings_sums_stack_ goings_lawsL_kinds_ goings_lawsL_to_ goings_lawsL_from_ goings_lawsL_code_ 0 (Int64.ofInt 351298031616000000)).bind (un6 fun r4 town_names_5 town_sizes_6 town_heaps_7 goings_sums_values_8 goings_sums_stack_9 =>
  (f_odds_commonDivisor r4 (Int64.ofInt 351298031616000000)).bind (fun r10 =>
  (f_math_max_JJ 1 r10).bind (fun r11 =>
  if ¬ r11 = 0 then
    if ¬ r11 = 0 then
      some (l1, l2, r4 / r11, (Int64.ofInt 351298031616000000) / r11, town_names_5, town_sizes_6, town_heaps_7, goings_sums_values_8, goings_sums_stack_9)
    else none
  else none))))
def f_x_chance (now_people_ : Int32) (now_gates_ : Int32) (now_hour_ : Int32) (now_ruling_ : Int32) (odds_who_ : Int32) (odds_name_ : Int32) (odds_upper_ : Int64) (odds_lower_ : Int64) (laws_ru : Nat) (now_row_size_ : Int32) (now_lot_ : Nat → Int32) (lawsL_codeLength_ : Int32) (lawsL_size_ : Int32) (lawsL_take_ : Int32) (now_born_ : Nat → Int32) (now_row_cells_ : Nat → Int32) (now_town_names_ : Nat → Int32) (odds_town_names_ : Nat → Int32) (now_town_sizes_ : Nat → Int32) (odds_town_sizes_ : Nat → Int32) (now_town_heaps_ : Nat → Nat → Int32) (odds_town_heaps_ : Nat → Nat → Int32) (goings_sums_values_ : Nat → Int32) (lawsL_kinds_ : Nat → Int32) (lawsL_to_ : Nat → Int32) (lawsL_from_ : Nat → Int32) (goings_sums_stack_ : Nat → Int32) (lawsL_code_ : Nat → Int32) (l1 : Int32) (l2 : Int32) (l3 : Int32) : Option ((Int64 × Int32 × Int32 × Int64 × Int64 × (Nat → Int32) × (Nat → Int32) × (Nat → Nat → Int32) × (Nat → Int32) × (Nat → Int32))) :=
  (f_world_hasPerson now_people_ l1).bind (fun r1 =>
  if r1 = 0 then
    some (Int64.ofInt (-1), odds_who_, odds_name_, odds_upper_, odds_lower_, odds_town_names_, odds_town_sizes_, odds_town_heaps_, goings_sums_values_, goings_sums_stack_)
  else
    (f_x_isNameOrNone l2).bind (fun r2 =>
    if r2 = 0 then
      some (Int64.ofInt (-1), odds_who_, odds_name_, odds_upper_, odds_lower_, odds_town_names_, odds_town_sizes_, odds_town_heaps_, goings_sums_values_, goings_sums_stack_)
    else
      if l3 < 0 then
        some (Int64.ofInt (-1), odds_who_, odds_name_, odds_upper_, odds_lower_, odds_town_names_, odds_town_sizes_, odds_town_heaps_, goings_sums_values_, goings_sums_stack_)
      else
        if 1 < l3 then
          some (Int64.ofInt (-1), odds_who_, odds_name_, odds_upper_, odds_lower_, odds_town_names_, odds_town_sizes_, odds_town_heaps_, goings_sums_values_, goings_sums_stack_)
        else
          (f_odds_lotsOfRow now_gates_ now_row_size_ now_lot_ now_row_cells_).bind (fun r3 =>
          if 6 < r3 then
            some (Int64.ofInt (-1), odds_who_, odds_name_, odds_upper_, odds_lower_, odds_town_names_, odds_town_sizes_, odds_town_heaps_, goings_sums_values_, goings_sums_stack_)
          else
            (f_odds_reckon odds_who_ odds_name_ odds_upper_ odds_lower_ now_people_ now_gates_ now_hour_ now_ruling_ odds_town_names_ odds_town_sizes_ odds_town_heaps_ now_row_size_ now_lot_ laws_ru now_born_ now_town_names_ now_town_sizes_ now_town_heaps_ now_row_cells_ goings_sums_values_ lawsL_codeLength_ lawsL_size_ lawsL_take_ goings_sums_stack_ lawsL_kinds_ lawsL_to_ lawsL_from_ lawsL_code_ l1 l2).bind (un9 fun odds_who_4 odds_name_5 odds_upper_6 odds_lower_7 odds_town_names_8 odds_town_sizes_9 odds_town_heaps_10 goings_sums_values_11 goings_sums_stack_12 =>
            if l3 = 0 then
              some (odds_upper_6, odds_who_4, odds_name_5, odds_upper_6, odds_lower_7, odds_town_names_8, odds_town_sizes_9, odds_town_heaps_10, goings_sums_values_11, goings_sums_stack_12)
            else
              some (odds_lower_7, odds_who_4, odds_name_5, odds_upper_6, odds_lower_7, odds_town_names_8, odds_town_sizes_9, odds_town_heaps_10, goings_sums_values_11, goings_sums_stack_12)))))
def f_ways_isLost (world_book_size_ : Int32) (world_book_cells_ : Nat → Int32) (l1 : Int32) : Option (Int32) :=
  (f_tri_at world_book_size_ 18 world_book_cells_ l1 1).bind (fun r1 =>
  if r1 = (-1) then
    some 1
  else
    some 0)
def fb_ways_hasLost_2 (world_book_size_ : Int32) (world_book_cells_ : Nat → Int32) (l1 : Int32) : Option (Int32 ⊕ (Unit ⊕ Unit)) :=
  if l1 < world_book_size_ then
    (f_ways_isLost world_book_size_ world_book_cells_ l1).bind (fun r1 =>
    if r1 = 0 then
      some (.inl (l1 + 1))
    else
      some (.inr (.inl ())))
  else
    some (.inr (.inr (())))
def f_ways_hasLost (world_book_size_ : Int32) (world_book_cells_ : Nat → Int32) : Option (Int32) :=
  (itr (fb_ways_hasLost_2 world_book_size_ world_book_cells_) KF 0).bind
    (Sum.elim
      (fun _ =>
        some 1
      )
      (fun _ =>
        some 0
      )
    )
def fj_x_line_87 (now_book_size_ : Int32) (now_book_cells_ : Nat → Int32) (l2 : Int32) (l3 : Int32) (s0 : Int32) : Option ((Int32 × Int32 × (Nat → Int32))) :=
  (f_tri_add now_book_size_ 18 now_book_cells_ s0 l2 l3).bind (un3 fun r3 now_book_size_4 now_book_cells_5 =>
  some (r3, now_book_size_4, now_book_cells_5))
def f_x_line (now_gates_ : Int32) (now_book_size_ : Int32) (now_book_cells_ : Nat → Int32) (l1 : Int32) (l2 : Int32) (l3 : Int32) : Option ((Int32 × Int32 × (Nat → Int32))) :=
  if l3 = (-1) then
    some (0, 0, now_book_cells_)
  else
    if l2 = (-1) then
      (f_ways_hasLost now_book_size_ now_book_cells_).bind (fun r9 =>
      if r9 = 0 then
        (f_tri_add now_book_size_ 18 now_book_cells_ 0 (-1) (-1)).bind (un3 fun r10 now_book_size_11 now_book_cells_12 =>
        some (r10, now_book_size_11, now_book_cells_12))
      else
        some ((-1), now_book_size_, now_book_cells_))
    else
      (f_x_isName l2).bind (fun r1 =>
      if r1 = 0 then
        some ((-1), now_book_size_, now_book_cells_)
      else
        (f_world_hasGate now_gates_ l3).bind (fun r2 =>
        if r2 = 0 then
          some ((-1), now_book_size_, now_book_cells_)
        else
          if l1 = 0 then
            fj_x_line_87 now_book_size_ now_book_cells_ l2 l3 0
          else
            fj_x_line_87 now_book_size_ now_book_cells_ l2 l3 1))
def f_ways_tellPlace (places_ : Nat → Int32) (l1 : Int32) (l2 : Int32) : Option (Nat → Int32) :=
  (f_x_isName l1).bind (fun r1 =>
  if r1 = 0 then
    some places_
  else
    if inb l1 8 then
      if inb l1 8 then
        bnd (upd places_ (ix l1) ((places_ (ix l1)) ||| l2) : Nat → Int32) fun places_4 =>
        some places_4
      else none
    else none)
def fb_ways_tellEnd_12 (world_people_ : Int32) (town_names_ : Nat → Int32) (l1 : Int32) (places_ : Nat → Int32) (parts_ : Nat → Nat → Int32) : Option ((Int32 × (Nat → Int32) × (Nat → Nat → Int32)) ⊕ ((Nat → Int32) × (Nat → Nat → Int32))) :=
  if l1 < world_people_ then
    (f_town_nameOf town_names_ l1).bind (fun r1 =>
    if inb l1 8 then
      if inb (r1 + 1) 9 then
        if inb (r1 + 1) 9 then
          bnd (setR parts_ (ix l1) (upd (parts_ (ix l1)) (ix (r1 + 1)) ((parts_ (ix l1) (ix (r1 + 1))) + 1)) : Nat → Nat → Int32) fun parts_5 =>
          (f_ways_tellPlace places_ r1 (1 <<< (l1 &&& 31))).bind (fun places_6 =>
          some (.inl (l1 + 1, places_6, parts_5)))
        else none
      else none
    else none)
  else
    some (.inr (places_, parts_))
def fb_ways_tellEnd_75 (town_sizes_ : Nat → Int32) (town_heaps_ : Nat → Nat → Int32) (l1 : Int32) (l2 : Int32) (places_ : Nat → Int32) : Option ((Int32 × (Nat → Int32)) ⊕ (Nat → Int32)) :=
  (f_town_sizeOf town_sizes_ l1).bind (fun r11 =>
  if l2 < r11 then
    (f_town_nameAt town_sizes_ town_heaps_ l1 l2).bind (fun r12 =>
    (f_ways_tellPlace places_ r12 256).bind (fun places_13 =>
    some (.inl (l2 + 1, places_13))))
  else
    some (.inr places_))
def fb_ways_tellEnd_62 (world_gates_ : Int32) (town_sizes_ : Nat → Int32) (town_heaps_ : Nat → Nat → Int32) (l1 : Int32) (places_ : Nat → Int32) : Option ((Int32 × (Nat → Int32)) ⊕ (Nat → Int32)) :=
  if l1 < world_gates_ then
    (itr (un2 (fb_ways_tellEnd_75 town_sizes_ town_heaps_ l1)) KF (0, places_)).bind
      (fun places_17 =>
        some (.inl (l1 + 1, places_17))
      )
  else
    some (.inr places_)
def f_ways_tellEnd (count_ : Int32) (world_people_ : Int32) (world_gates_ : Int32) (places_ : Nat → Int32) (parts_ : Nat → Nat → Int32) (town_sizes_ : Nat → Int32) (town_heaps_ : Nat → Nat → Int32) (town_names_ : Nat → Int32) : Option ((Int32 × (Nat → Int32) × (Nat → Nat → Int32))) :=
  (itr (un3 (fb_ways_tellEnd_12 world_people_ town_names_)) KF (0, places_, parts_)).bind
    (un2 fun places_9 parts_10 =>
      (itr (un2 (fb_ways_tellEnd_62 world_gates_ town_sizes_ town_heaps_)) KF (0, places_9)).bind
        (fun places_18 =>
          some (count_ + 1, places_18, parts_10)
        )
    )
def fj_ways_mayBeOf_30 (world_book_size_ : Int32) (world_book_cells_ : Nat → Int32) (l1 : Int32) (l3 : Int32) (s0 : Int32) : Option (Int32) :=
  (f_ways_isLost world_book_size_ world_book_cells_ l1).bind (fun r3 =>
  if r3 = 0 then
    if s0 = 0 then
      (f_tri_at world_book_size_ 18 world_book_cells_ l1 1).bind (fun r4 =>
      if l3 = r4 then
        some 1
      else
        some 0)
    else
      if l3 = (-1) then
        some 1
      else
        some 0
  else
    some 1)
def f_ways_mayBeOf (town_names_ : Nat → Int32) (world_book_size_ : Int32) (world_book_cells_ : Nat → Int32) (l1 : Int32) (l2 : Int32) : Option (Int32) :=
  (f_town_nameOf town_names_ l2).bind (fun r1 =>
  (f_tri_at world_book_size_ 18 world_book_cells_ l1 0).bind (fun r2 =>
  if r2 = 1 then
    fj_ways_mayBeOf_30 world_book_size_ world_book_cells_ l1 r1 1
  else
    fj_ways_mayBeOf_30 world_book_size_ world_book_cells_ l1 r1 0))
def fj_ways_follow_20 (F_ways_follow : Int32 → Int32 → Int32 → Int32 → Int32 → (Nat → Int32) → (Nat → Nat → Int32) → Int32 → (Nat → Int32) → (Nat → Nat → Int32) → (Nat → Int32) → Nat → (Nat → Int32) → (Nat → Int32) → (Nat → Int32) → (Nat → Int32) → Int32 → Int32 → Int32 → (Nat → Int32) → (Nat → Int32) → (Nat → Int32) → (Nat → Int32) → (Nat → Int32) → Int32 → Option ((Int32 × (Nat → Int32) × (Nat → Nat → Int32) × (Nat → Int32) × (Nat → Nat → Int32) × (Nat → Int32) × (Nat → Int32) × (Nat → Int32)))) (F_ways_followGoing : Int32 → Int32 → Int32 → Int32 → Int32 → (Nat → Int32) → (Nat → Nat → Int32) → (Nat → Int32) → Int32 → Nat → (Nat → Int32) → (Nat → Int32) → (Nat → Nat → Int32) → (Nat → Int32) → (Nat → Int32) → (Nat → Int32) → Int32 → Int32 → Int32 → (Nat → Int32) → (Nat → Int32) → (Nat → Int32) → (Nat → Int32) → (Nat → Int32) → Int32 → Int32 → Int32 → Option ((Int32 × (Nat → Int32) × (Nat → Nat → Int32) × (Nat → Int32) × (Nat → Int32) × (Nat → Nat → Int32) × (Nat → Int32) × (Nat → Int32)))) (F_ways_followIn : Int32 → Int32 → Int32 → Int32 → Int32 → (Nat → Int32) → (Nat → Nat → Int32) → (Nat → Int32) → (Nat → Nat → Int32) → Int32 → (Nat → Int32) → Nat → (Nat → Int32) → (Nat → Int32) → (Nat → Int32) → (Nat → Int32) → Int32 → Int32 → Int32 → (Nat → Int32) → (Nat → Int32) → (Nat → Int32) → (Nat → Int32) → (Nat → Int32) → Int32 → Int32 → Int32 → Int32 → Option ((Int32 × (Nat → Int32) × (Nat → Nat → Int32) × (Nat → Int32) × (Nat → Nat → Int32) × (Nat → Int32) × (Nat → Int32) × (Nat → Int32)))) (count_ : Int32) (world_people_ : Int32) (world_gates_ : Int32) (places_ : Nat → Int32) (parts_ : Nat → Nat → Int32) (town_sizes_ : Nat → Int32) (town_heaps_ : Nat → Nat → Int32) (town_names_ : Nat → Int32) (goings_sums_values_ : Nat → Int32) (goings_sums_stack_ : Nat → Int32) : Option ((Int32 × (Nat → Int32) × (Nat → Nat → Int32) × (Nat → Int32) × (Nat → Nat → Int32) × (Nat → Int32) × (Nat → Int32) × (Nat → Int32))) :=
  (f_ways_tellEnd count_ world_people_ world_gates_ places_ parts_ town_sizes_ town_heaps_ town_names_).bind (un3 fun count_1 places_2 parts_3 =>
  some (count_1, places_2, parts_3, town_sizes_, town_heaps_, town_names_, goings_sums_values_, goings_sums_stack_))
def fj_ways_follow_75_40 (F_ways_follow : Int32 → Int32 → Int32 → Int32 → Int32 → (Nat → Int32) → (Nat → Nat → Int32) → Int32 → (Nat → Int32) → (Nat → Nat → Int32) → (Nat → Int32) → Nat → (Nat → Int32) → (Nat → Int32) → (Nat → Int32) → (Nat → Int32) → Int32 → Int32 → Int32 → (Nat → Int32) → (Nat → Int32) → (Nat → Int32) → (Nat → Int32) → (Nat → Int32) → Int32 → Option ((Int32 × (Nat → Int32) × (Nat → Nat → Int32) × (Nat → Int32) × (Nat → Nat → Int32) × (Nat → Int32) × (Nat → Int32) × (Nat → Int32)))) (F_ways_followGoing : Int32 → Int32 → Int32 → Int32 → Int32 → (Nat → Int32) → (Nat → Nat → Int32) → (Nat → Int32) → Int32 → Nat → (Nat → Int32) → (Nat → Int32) → (Nat → Nat → Int32) → (Nat → Int32) → (Nat → Int32) → (Nat → Int32) → Int32 → Int32 → Int32 → (Nat → Int32) → (Nat → Int32) → (Nat → Int32) → (Nat → Int32) → (Nat → Int32) → Int32 → Int32 → Int32 → Option ((Int32 × (Nat → Int32) × (Nat → Nat → Int32) × (Nat → Int32) × (Nat → Int32) × (Nat → Nat → Int32) × (Nat → Int32) × (Nat → Int32)))) (F_ways_followIn : Int32 → Int32 → Int32 → Int32 → Int32 → (Nat → Int32) → (Nat → Nat → Int32) → (Nat → Int32) → (Nat → Nat → Int32) → Int32 → (Nat → Int32) → Nat → (Nat → Int32) → (Nat → Int32) → (Nat → Int32) → (Nat → Int32) → Int32 → Int32 → Int32 → (Nat → Int32) → (Nat → Int32) → (Nat → Int32) → (Nat → Int32) → (Nat → Int32) → Int32 → Int32 → Int32 → Int32 → Option ((Int32 × (Nat → Int32) × (Nat → Nat → Int32) × (Nat → Int32) × (Nat → Nat → Int32) × (Nat → Int32) × (Nat → Int32) × (Nat → Int32)))) (count_ : Int32) (world_people_ : Int32) (world_gates_ : Int32) (world_hour_ : Int32) (world_ruling_ : Int32) (places_ : Nat → Int32) (parts_ : Nat → Nat → Int32) (world_book_size_ : Int32) (town_sizes_ : Nat → Int32) (town_heaps_ : Nat → Nat → Int32) (town_names_ : Nat → Int32) (goings_laws_ru : Nat) (world_lot_ : Nat → Int32) (world_born_ : Nat → Int32) (world_book_cells_ : Nat → Int32) (goings_sums_values_ : Nat → Int32) (goings_lawsL_codeLength_ : Int32) (goings_lawsL_size_ : Int32) (goings_lawsL_take_ : Int32) (goings_sums_stack_ : Nat → Int32) (goings_lawsL_kinds_ : Nat → Int32) (goings_lawsL_to_ : Nat → Int32) (goings_lawsL_from_ : Nat → Int32) (goings_lawsL_code_ : Nat → Int32) (l1 : Int32) (l2 : Int32) (l3 : Int32) : Option ((Int32 × Int32 × (Nat → Int32) × (Nat → Nat → Int32) × (Nat → Int32) × (Nat → Nat → Int32) × (Nat → Int32) × (Nat → Int32) × (Nat → Int32)) ⊕ (Int32 × (Nat → Int32) × (Nat → Nat → Int32) × (Nat → Int32) × (Nat → Nat → Int32) × (Nat → Int32) × (Nat → Int32) × (Nat → Int32))) :=
  (F_ways_followGoing count_ world_people_ world_gates_ world_hour_ world_ruling_ places_ parts_ town_names_ world_book_size_ goings_laws_ru town_sizes_ world_lot_ town_heaps_ world_born_ world_book_cells_ goings_sums_values_ goings_lawsL_codeLength_ goings_lawsL_size_ goings_lawsL_take_ goings_sums_stack_ goings_lawsL_kinds_ goings_lawsL_to_ goings_lawsL_from_ goings_lawsL_code_ l1 l2 l3).bind (un8 fun count_6 places_7 parts_8 town_names_9 town_sizes_10 town_heaps_11 goings_sums_values_12 goings_sums_stack_13 =>
  some (.inl (l3 + 1, count_6, places_7, parts_8, town_sizes_10, town_heaps_11, town_names_9, goings_sums_values_12, goings_sums_stack_13)))
def fb_ways_follow_40 (F_ways_follow : Int32 → Int32 → Int32 → Int32 → Int32 → (Nat → Int32) → (Nat → Nat → Int32) → Int32 → (Nat → Int32) → (Nat → Nat → Int32) → (Nat → Int32) → Nat → (Nat → Int32) → (Nat → Int32) → (Nat → Int32) → (Nat → Int32) → Int32 → Int32 → Int32 → (Nat → Int32) → (Nat → Int32) → (Nat → Int32) → (Nat → Int32) → (Nat → Int32) → Int32 → Option ((Int32 × (Nat → Int32) × (Nat → Nat → Int32) × (Nat → Int32) × (Nat → Nat → Int32) × (Nat → Int32) × (Nat → Int32) × (Nat → Int32)))) (F_ways_followGoing : Int32 → Int32 → Int32 → Int32 → Int32 → (Nat → Int32) → (Nat → Nat → Int32) → (Nat → Int32) → Int32 → Nat → (Nat → Int32) → (Nat → Int32) → (Nat → Nat → Int32) → (Nat → Int32) → (Nat → Int32) → (Nat → Int32) → Int32 → Int32 → Int32 → (Nat → Int32) → (Nat → Int32) → (Nat → Int32) → (Nat → Int32) → (Nat → Int32) → Int32 → Int32 → Int32 → Option ((Int32 × (Nat → Int32) × (Nat → Nat → Int32) × (Nat → Int32) × (Nat → Int32) × (Nat → Nat → Int32) × (Nat → Int32) × (Nat → Int32)))) (F_ways_followIn : Int32 → Int32 → Int32 → Int32 → Int32 → (Nat → Int32) → (Nat → Nat → Int32) → (Nat → Int32) → (Nat → Nat → Int32) → Int32 → (Nat → Int32) → Nat → (Nat → Int32) → (Nat → Int32) → (Nat → Int32) → (Nat → Int32) → Int32 → Int32 → Int32 → (Nat → Int32) → (Nat → Int32) → (Nat → Int32) → (Nat → Int32) → (Nat → Int32) → Int32 → Int32 → Int32 → Int32 → Option ((Int32 × (Nat → Int32) × (Nat → Nat → Int32) × (Nat → Int32) × (Nat → Nat → Int32) × (Nat → Int32) × (Nat → Int32) × (Nat → Int32)))) (world_people_ : Int32) (world_gates_ : Int32) (world_hour_ : Int32) (world_ruling_ : Int32) (world_book_size_ : Int32) (goings_laws_ru : Nat) (world_lot_ : Nat → Int32) (world_born_ : Nat → Int32) (world_book_cells_ : Nat → Int32) (goings_lawsL_codeLength_ : Int32) (goings_lawsL_size_ : Int32) (goings_lawsL_take_ : Int32) (goings_lawsL_kinds_ : Nat → Int32) (goings_lawsL_to_ : Nat → Int32) (goings_lawsL_from_ : Nat → Int32) (goings_lawsL_code_ : Nat → Int32) (l1 : Int32) (l2 : Int32) (l3 : Int32) (count_ : Int32) (places_ : Nat → Int32) (parts_ : Nat → Nat → Int32) (town_sizes_ : Nat → Int32) (town_heaps_ : Nat → Nat → Int32) (town_names_ : Nat → Int32) (goings_sums_values_ : Nat → Int32) (goings_sums_stack_ : Nat → Int32) : Option ((Int32 × Int32 × (Nat → Int32) × (Nat → Nat → Int32) × (Nat → Int32) × (Nat → Nat → Int32) × (Nat → Int32) × (Nat → Int32) × (Nat → Int32)) ⊕ (Int32 × (Nat → Int32) × (Nat → Nat → Int32) × (Nat → Int32) × (Nat → Nat → Int32) × (Nat → Int32) × (Nat → Int32) × (Nat → Int32))) :=
  if l3 < world_gates_ then
    (f_ways_isLost world_book_size_ world_book_cells_ l1).bind (fun r5 =>
    if r5 = 0 then
      (f_tri_at world_book_size_ 18 world_book_cells_ l1 2).bind (fun r15 =>
      if l3 = r15 then
        fj_ways_follow_75_40 F_ways_follow F_ways_followGoing F_ways_followIn count_ world_people_ world_gates_ world_hour_ world_ruling_ places_ parts_ world_book_size_ town_sizes_ town_heaps_ town_names_ goings_laws_ru world_lot_ world_born_ world_book_cells_ goings_sums_values_ goings_lawsL_codeLength_ goings_lawsL_size_ goings_lawsL_take_ goings_sums_stack_ goings_lawsL_kinds_ goings_lawsL_to_ goings_lawsL_from_ goings_lawsL_code_ l1 l2 l3
      else
        some (.inl (l3 + 1, count_, places_, parts_, town_sizes_, town_heaps_, town_names_, goings_sums_values_, goings_sums_stack_)))
    else
      fj_ways_follow_75_40 F_ways_follow F_ways_followGoing F_ways_followIn count_ world_people_ world_gates_ world_hour_ world_ruling_ places_ parts_ world_book_size_ town_sizes_ town_heaps_ town_names_ goings_laws_ru world_lot_ world_born_ world_book_cells_ goings_sums_values_ goings_lawsL_codeLength_ goings_lawsL_size_ goings_lawsL_take_ goings_sums_stack_ goings_lawsL_kinds_ goings_lawsL_to_ goings_lawsL_from_ goings_lawsL_code_ l1 l2 l3)
  else
    some (.inr (count_, places_, parts_, town_sizes_, town_heaps_, town_names_, goings_sums_values_, goings_sums_stack_))
def fb_ways_follow_27 (F_ways_follow : Int32 → Int32 → Int32 → Int32 → Int32 → (Nat → Int32) → (Nat → Nat → Int32) → Int32 → (Nat → Int32) → (Nat → Nat → Int32) → (Nat → Int32) → Nat → (Nat → Int32) → (Nat → Int32) → (Nat → Int32) → (Nat → Int32) → Int32 → Int32 → Int32 → (Nat → Int32) → (Nat → Int32) → (Nat → Int32) → (Nat → Int32) → (Nat → Int32) → Int32 → Option ((Int32 × (Nat → Int32) × (Nat → Nat → Int32) × (Nat → Int32) × (Nat → Nat → Int32) × (Nat → Int32) × (Nat → Int32) × (Nat → Int32)))) (F_ways_followGoing : Int32 → Int32 → Int32 → Int32 → Int32 → (Nat → Int32) → (Nat → Nat → Int32) → (Nat → Int32) → Int32 → Nat → (Nat → Int32) → (Nat → Int32) → (Nat → Nat → Int32) → (Nat → Int32) → (Nat → Int32) → (Nat → Int32) → Int32 → Int32 → Int32 → (Nat → Int32) → (Nat → Int32) → (Nat → Int32) → (Nat → Int32) → (Nat → Int32) → Int32 → Int32 → Int32 → Option ((Int32 × (Nat → Int32) × (Nat → Nat → Int32) × (Nat → Int32) × (Nat → Int32) × (Nat → Nat → Int32) × (Nat → Int32) × (Nat → Int32)))) (F_ways_followIn : Int32 → Int32 → Int32 → Int32 → Int32 → (Nat → Int32) → (Nat → Nat → Int32) → (Nat → Int32) → (Nat → Nat → Int32) → Int32 → (Nat → Int32) → Nat → (Nat → Int32) → (Nat → Int32) → (Nat → Int32) → (Nat → Int32) → Int32 → Int32 → Int32 → (Nat → Int32) → (Nat → Int32) → (Nat → Int32) → (Nat → Int32) → (Nat → Int32) → Int32 → Int32 → Int32 → Int32 → Option ((Int32 × (Nat → Int32) × (Nat → Nat → Int32) × (Nat → Int32) × (Nat → Nat → Int32) × (Nat → Int32) × (Nat → Int32) × (Nat → Int32)))) (world_people_ : Int32) (world_gates_ : Int32) (world_hour_ : Int32) (world_ruling_ : Int32) (world_book_size_ : Int32) (goings_laws_ru : Nat) (world_lot_ : Nat → Int32) (world_born_ : Nat → Int32) (world_book_cells_ : Nat → Int32) (goings_lawsL_codeLength_ : Int32) (goings_lawsL_size_ : Int32) (goings_lawsL_take_ : Int32) (goings_lawsL_kinds_ : Nat → Int32) (goings_lawsL_to_ : Nat → Int32) (goings_lawsL_from_ : Nat → Int32) (goings_lawsL_code_ : Nat → Int32) (l1 : Int32) (l2 : Int32) (count_ : Int32) (places_ : Nat → Int32) (parts_ : Nat → Nat → Int32) (town_sizes_ : Nat → Int32) (town_heaps_ : Nat → Nat → Int32) (town_names_ : Nat → Int32) (goings_sums_values_ : Nat → Int32) (goings_sums_stack_ : Nat → Int32) : Option ((Int32 × Int32 × (Nat → Int32) × (Nat → Nat → Int32) × (Nat → Int32) × (Nat → Nat → Int32) × (Nat → Int32) × (Nat → Int32) × (Nat → Int32)) ⊕ (Int32 × (Nat → Int32) × (Nat → Nat → Int32) × (Nat → Int32) × (Nat → Nat → Int32) × (Nat → Int32) × (Nat → Int32) × (Nat → Int32))) :=
  if l2 < world_people_ then
    (itr (un9 (fb_ways_follow_40 F_ways_follow F_ways_followGoing F_ways_followIn world_people_ world_gates_ world_hour_ world_ruling_ world_book_size_ goings_laws_ru world_lot_ world_born_ world_book_cells_ goings_lawsL_codeLength_ goings_lawsL_size_ goings_lawsL_take_ goings_lawsL_kinds_ goings_lawsL_to_ goings_lawsL_from_ goings_lawsL_code_ l1 l2)) KF (0, count_, places_, parts_, town_sizes_, town_heaps_, town_names_, goings_sums_values_, goings_sums_stack_)).bind
      (un8 fun count_18 places_19 parts_20 town_sizes_21 town_heaps_22 town_names_23 goings_sums_values_24 goings_sums_stack_25 =>
        some (.inl (l2 + 1, count_18, places_19, parts_20, town_sizes_21, town_heaps_22, town_names_23, goings_sums_values_24, goings_sums_stack_25))
      )
  else
    some (.inr (count_, places_, parts_, town_sizes_, town_heaps_, town_names_, goings_sums_values_, goings_sums_stack_))
def fR_ways_follow (F_ways_follow : Int32 → Int32 → Int32 → Int32 → Int32 → (Nat → Int32) → (Nat → Nat → Int32) → Int32 → (Nat → Int32) → (Nat → Nat → Int32) → (Nat → Int32) → Nat → (Nat → Int32) → (Nat → Int32) → (Nat → Int32) → (Nat → Int32) → Int32 → Int32 → Int32 → (Nat → Int32) → (Nat → Int32) → (Nat → Int32) → (Nat → Int32) → (Nat → Int32) → Int32 → Option ((Int32 × (Nat → Int32) × (Nat → Nat → Int32) × (Nat → Int32) × (Nat → Nat → Int32) × (Nat → Int32) × (Nat → Int32) × (Nat → Int32)))) (F_ways_followGoing : Int32 → Int32 → Int32 → Int32 → Int32 → (Nat → Int32) → (Nat → Nat → Int32) → (Nat → Int32) → Int32 → Nat → (Nat → Int32) → (Nat → Int32) → (Nat → Nat → Int32) → (Nat → Int32) → (Nat → Int32) → (Nat → Int32) → Int32 → Int32 → Int32 → (Nat → Int32) → (Nat → Int32) → (Nat → Int32) → (Nat → Int32) → (Nat → Int32) → Int32 → Int32 → Int32 → Option ((Int32 × (Nat → Int32) × (Nat → Nat → Int32) × (Nat → Int32) × (Nat → Int32) × (Nat → Nat → Int32) × (Nat → Int32) × (Nat → Int32)))) (F_ways_followIn : Int32 → Int32 → Int32 → Int32 → Int32 → (Nat → Int32) → (Nat → Nat → Int32) → (Nat → Int32) → (Nat → Nat → Int32) → Int32 → (Nat → Int32) → Nat → (Nat → Int32) → (Nat → Int32) → (Nat → Int32) → (Nat → Int32) → Int32 → Int32 → Int32 → (Nat → Int32) → (Nat → Int32) → (Nat → Int32) → (Nat → Int32) → (Nat → Int32) → Int32 → Int32 → Int32 → Int32 → Option ((Int32 × (Nat → Int32) × (Nat → Nat → Int32) × (Nat → Int32) × (Nat → Nat → Int32) × (Nat → Int32) × (Nat → Int32) × (Nat → Int32)))) (count_ : Int32) (world_people_ : Int32) (world_gates_ : Int32) (world_hour_ : Int32) (world_ruling_ : Int32) (places_ : Nat → Int32) (parts_ : Nat → Nat → Int32) (world_book_size_ : Int32) (town_sizes_ : Nat → Int32) (town_heaps_ : Nat → Nat → Int32) (town_names_ : Nat → Int32) (goings_laws_ru : Nat) (world_lot_ : Nat → Int32) (world_born_ : Nat → Int32) (world_book_cells_ : Nat → Int32) (goings_sums_values_ : Nat → Int32) (goings_lawsL_codeLength_ : Int32) (goings_lawsL_size_ : Int32) (goings_lawsL_take_ : Int32) (goings_sums_stack_ : Nat → Int32) (goings_lawsL_kinds_ : Nat → Int32) (goings_lawsL_to_ : Nat → Int32) (goings_lawsL_from_ : Nat → Int32) (goings_lawsL_code_ : Nat → Int32) (l1 : Int32) : Option ((Int32 × (Nat → Int32) × (Nat → Nat → Int32) × (Nat → Int32) × (Nat → Nat → Int32) × (Nat → Int32) × (Nat → Int32) × (Nat → Int32))) :=
  if l1 < world_book_size_ then
    if l1 < 6 then
      (itr (un9 (fb_ways_follow_27 F_ways_follow F_ways_followGoing F_ways_followIn world_people_ world_gates_ world_hour_ world_ruling_ world_book_size_ goings_laws_ru world_lot_ world_born_ world_book_cells_ goings_lawsL_codeLength_ goings_lawsL_size_ goings_lawsL_take_ goings_lawsL_kinds_ goings_lawsL_to_ goings_lawsL_from_ goings_lawsL_code_ l1)) KF (0, count_, places_, parts_, town_sizes_, town_heaps_, town_names_, goings_sums_values_, goings_sums_stack_)).bind
        (un8 fun count_26 places_27 parts_28 town_sizes_29 town_heaps_30 town_names_31 goings_sums_values_32 goings_sums_stack_33 =>
          some (count_26, places_27, parts_28, town_sizes_29, town_heaps_30, town_names_31, goings_sums_values_32, goings_sums_stack_33)
        )
    else
      fj_ways_follow_20 F_ways_follow F_ways_followGoing F_ways_followIn count_ world_people_ world_gates_ places_ parts_ town_sizes_ town_heaps_ town_names_ goings_sums_values_ goings_sums_stack_
  else
    fj_ways_follow_20 F_ways_follow F_ways_followGoing F_ways_followIn count_ world_people_ world_gates_ places_ parts_ town_sizes_ town_heaps_ town_names_ goings_sums_values_ goings_sums_stack_
def fb_ways_followGoing_101 (F_ways_follow : Int32 → Int32 → Int32 → Int32 → Int32 → (Nat → Int32) → (Nat → Nat → Int32) → Int32 → (Nat → Int32) → (Nat → Nat → Int32) → (Nat → Int32) → Nat → (Nat → Int32) → (Nat → Int32) → (Nat → Int32) → (Nat → Int32) → Int32 → Int32 → Int32 → (Nat → Int32) → (Nat → Int32) → (Nat → Int32) → (Nat → Int32) → (Nat → Int32) → Int32 → Option ((Int32 × (Nat → Int32) × (Nat → Nat → Int32) × (Nat → Int32) × (Nat → Nat → Int32) × (Nat → Int32) × (Nat → Int32) × (Nat → Int32)))) (F_ways_followGoing : Int32 → Int32 → Int32 → Int32 → Int32 → (Nat → Int32) → (Nat → Nat → Int32) → (Nat → Int32) → Int32 → Nat → (Nat → Int32) → (Nat → Int32) → (Nat → Nat → Int32) → (Nat → Int32) → (Nat → Int32) → (Nat → Int32) → Int32 → Int32 → Int32 → (Nat → Int32) → (Nat → Int32) → (Nat → Int32) → (Nat → Int32) → (Nat → Int32) → Int32 → Int32 → Int32 → Option ((Int32 × (Nat → Int32) × (Nat → Nat → Int32) × (Nat → Int32) × (Nat → Int32) × (Nat → Nat → Int32) × (Nat → Int32) × (Nat → Int32)))) (F_ways_followIn : Int32 → Int32 → Int32 → Int32 → Int32 → (Nat → Int32) → (Nat → Nat → Int32) → (Nat → Int32) → (Nat → Nat → Int32) → Int32 → (Nat → Int32) → Nat → (Nat → Int32) → (Nat → Int32) → (Nat → Int32) → (Nat → Int32) → Int32 → Int32 → Int32 → (Nat → Int32) → (Nat → Int32) → (Nat → Int32) → (Nat → Int32) → (Nat → Int32) → Int32 → Int32 → Int32 → Int32 → Option ((Int32 × (Nat → Int32) × (Nat → Nat → Int32) × (Nat → Int32) × (Nat → Nat → Int32) × (Nat → Int32) × (Nat → Int32) × (Nat → Int32)))) (world_people_ : Int32) (world_gates_ : Int32) (world_hour_ : Int32) (world_ruling_ : Int32) (world_book_size_ : Int32) (goings_laws_ru : Nat) (world_lot_ : Nat → Int32) (world_born_ : Nat → Int32) (world_book_cells_ : Nat → Int32) (goings_lawsL_codeLength_ : Int32) (goings_lawsL_size_ : Int32) (goings_lawsL_take_ : Int32) (goings_lawsL_kinds_ : Nat → Int32) (goings_lawsL_to_ : Nat → Int32) (goings_lawsL_from_ : Nat → Int32) (goings_lawsL_code_ : Nat → Int32) (l1 : Int32) (l2 : Int32) (l3 : Int32) (l4 : Int32) (l5 : Int32) (count_ : Int32) (places_ : Nat → Int32) (parts_ : Nat → Nat → Int32) (town_names_ : Nat → Int32) (town_sizes_ : Nat → Int32) (town_heaps_ : Nat → Nat → Int32) (goings_sums_values_ : Nat → Int32) (goings_sums_stack_ : Nat → Int32) : Option ((Int32 × Int32 × (Nat → Int32) × (Nat → Nat → Int32) × (Nat → Int32) × (Nat → Int32) × (Nat → Nat → Int32) × (Nat → Int32) × (Nat → Int32)) ⊕ (Int32 × (Nat → Int32) × (Nat → Nat → Int32) × (Nat → Int32) × (Nat → Int32) × (Nat → Nat → Int32) × (Nat → Int32) × (Nat → Int32))) :=
  if l5 < l4 then
    (F_ways_followIn count_ world_people_ world_gates_ world_hour_ world_ruling_ places_ parts_ town_sizes_ town_heaps_ world_book_size_ town_names_ goings_laws_ru world_lot_ world_born_ world_book_cells_ goings_sums_values_ goings_lawsL_codeLength_ goings_lawsL_size_ goings_lawsL_take_ goings_sums_stack_ goings_lawsL_kinds_ goings_lawsL_to_ goings_lawsL_from_ goings_lawsL_code_ l1 l2 l3 l5).bind (un8 fun count_21 places_22 parts_23 town_sizes_24 town_heaps_25 town_names_26 goings_sums_values_27 goings_sums_stack_28 =>
    some (.inl (l5 + 1, count_21, places_22, parts_23, town_names_26, town_sizes_24, town_heaps_25, goings_sums_values_27, goings_sums_stack_28)))
  else
    some (.inr (count_, places_, parts_, town_names_, town_sizes_, town_heaps_, goings_sums_values_, goings_sums_stack_))
def fR_ways_followGoing (F_ways_follow : Int32 → Int32 → Int32 → Int32 → Int32 → (Nat → Int32) → (Nat → Nat → Int32) → Int32 → (Nat → Int32) → (Nat → Nat → Int32) → (Nat → Int32) → Nat → (Nat → Int32) → (Nat → Int32) → (Nat → Int32) → (Nat → Int32) → Int32 → Int32 → Int32 → (Nat → Int32) → (Nat → Int32) → (Nat → Int32) → (Nat → Int32) → (Nat → Int32) → Int32 → Option ((Int32 × (Nat → Int32) × (Nat → Nat → Int32) × (Nat → Int32) × (Nat → Nat → Int32) × (Nat → Int32) × (Nat → Int32) × (Nat → Int32)))) (F_ways_followGoing : Int32 → Int32 → Int32 → Int32 → Int32 → (Nat → Int32) → (Nat → Nat → Int32) → (Nat → Int32) → Int32 → Nat → (Nat → Int32) → (Nat → Int32) → (Nat → Nat → Int32) → (Nat → Int32) → (Nat → Int32) → (Nat → Int32) → Int32 → Int32 → Int32 → (Nat → Int32) → (Nat → Int32) → (Nat → Int32) → (Nat → Int32) → (Nat → Int32) → Int32 → Int32 → Int32 → Option ((Int32 × (Nat → Int32) × (Nat → Nat → Int32) × (Nat → Int32) × (Nat → Int32) × (Nat → Nat → Int32) × (Nat → Int32) × (Nat → Int32)))) (F_ways_followIn : Int32 → Int32 → Int32 → Int32 → Int32 → (Nat → Int32) → (Nat → Nat → Int32) → (Nat → Int32) → (Nat → Nat → Int32) → Int32 → (Nat → Int32) → Nat → (Nat → Int32) → (Nat → Int32) → (Nat → Int32) → (Nat → Int32) → Int32 → Int32 → Int32 → (Nat → Int32) → (Nat → Int32) → (Nat → Int32) → (Nat → Int32) → (Nat → Int32) → Int32 → Int32 → Int32 → Int32 → Option ((Int32 × (Nat → Int32) × (Nat → Nat → Int32) × (Nat → Int32) × (Nat → Nat → Int32) × (Nat → Int32) × (Nat → Int32) × (Nat → Int32)))) (count_ : Int32) (world_people_ : Int32) (world_gates_ : Int32) (world_hour_ : Int32) (world_ruling_ : Int32) (places_ : Nat → Int32) (parts_ : Nat → Nat → Int32) (town_names_ : Nat → Int32) (world_book_size_ : Int32) (goings_laws_ru : Nat) (town_sizes_ : Nat → Int32) (world_lot_ : Nat → Int32) (town_heaps_ : Nat → Nat → Int32) (world_born_ : Nat → Int32) (world_book_cells_ : Nat → Int32) (goings_sums_values_ : Nat → Int32) (goings_lawsL_codeLength_ : Int32) (goings_lawsL_size_ : Int32) (goings_lawsL_take_ : Int32) (goings_sums_stack_ : Nat → Int32) (goings_lawsL_kinds_ : Nat → Int32) (goings_lawsL_to_ : Nat → Int32) (goings_lawsL_from_ : Nat → Int32) (goings_lawsL_code_ : Nat → Int32) (l1 : Int32) (l2 : Int32) (l3 : Int32) : Option ((Int32 × (Nat → Int32) × (Nat → Nat → Int32) × (Nat → Int32) × (Nat → Int32) × (Nat → Nat → Int32) × (Nat → Int32) × (Nat → Int32))) :=
  (f_ways_mayBeOf town_names_ world_book_size_ world_book_cells_ l1 l2).bind (fun r1 =>
  if r1 = 0 then
    some (count_, places_, parts_, town_names_, town_sizes_, town_heaps_, goings_sums_values_, goings_sums_stack_)
  else
    (f_go_canBe world_people_ world_gates_ world_hour_ world_ruling_ goings_laws_ru goings_sums_values_ goings_lawsL_codeLength_ goings_lawsL_size_ goings_sums_stack_ goings_lawsL_kinds_ goings_lawsL_to_ goings_lawsL_from_ goings_lawsL_code_ town_names_ town_sizes_ l2 l3).bind (un3 fun r2 goings_sums_values_3 goings_sums_stack_4 =>
    if r2 = 0 then
      some (count_, places_, parts_, town_names_, town_sizes_, town_heaps_, goings_sums_values_3, goings_sums_stack_4)
    else
      (f_town_nameOf town_names_ l2).bind (fun r5 =>
      if r5 = (-1) then
        if inb l3 3 then
          if (world_lot_ (ix l3)) = 0 then
            (f_go_placeFor world_hour_ world_ruling_ goings_laws_ru goings_lawsL_codeLength_ goings_lawsL_size_ goings_lawsL_take_ goings_sums_values_3 goings_sums_stack_4 world_born_ goings_lawsL_to_ goings_lawsL_from_ goings_lawsL_code_ town_sizes_ town_names_ town_heaps_ l2 l3).bind (un3 fun r7 goings_sums_values_8 goings_sums_stack_9 =>
            (F_ways_followIn count_ world_people_ world_gates_ world_hour_ world_ruling_ places_ parts_ town_sizes_ town_heaps_ world_book_size_ town_names_ goings_laws_ru world_lot_ world_born_ world_book_cells_ goings_sums_values_8 goings_lawsL_codeLength_ goings_lawsL_size_ goings_lawsL_take_ goings_sums_stack_9 goings_lawsL_kinds_ goings_lawsL_to_ goings_lawsL_from_ goings_lawsL_code_ l1 l2 l3 r7).bind (un8 fun count_10 places_11 parts_12 town_sizes_13 town_heaps_14 town_names_15 goings_sums_values_16 goings_sums_stack_17 =>
            some (count_10, places_11, parts_12, town_names_15, town_sizes_13, town_heaps_14, goings_sums_values_16, goings_sums_stack_17)))
          else
            (f_town_sizeOf town_sizes_ l3).bind (fun r20 =>
            (itr (un9 (fb_ways_followGoing_101 F_ways_follow F_ways_followGoing F_ways_followIn world_people_ world_gates_ world_hour_ world_ruling_ world_book_size_ goings_laws_ru world_lot_ world_born_ world_book_cells_ goings_lawsL_codeLength_ goings_lawsL_size_ goings_lawsL_take_ goings_lawsL_kinds_ goings_lawsL_to_ goings_lawsL_from_ goings_lawsL_code_ l1 l2 l3 r20)) KF (0, count_, places_, parts_, town_names_, town_sizes_, town_heaps_, goings_sums_values_3, goings_sums_stack_4)).bind
              (un8 fun count_30 places_31 parts_32 town_names_33 town_sizes_34 town_heaps_35 goings_sums_values_36 goings_sums_stack_37 =>
                some (count_30, places_31, parts_32, town_names_33, town_sizes_34, town_heaps_35, goings_sums_values_36, goings_sums_stack_37)
              ))
        else none
      else
        (f_town_packed town_sizes_ town_heaps_ town_names_).bind (fun r39 =>
        (f_town_leave town_names_ town_sizes_ town_heaps_ l2 l3).bind (un4 fun r40 town_names_41 town_sizes_42 town_heaps_43 =>
        (F_ways_follow count_ world_people_ world_gates_ world_hour_ world_ruling_ places_ parts_ world_book_size_ town_sizes_42 town_heaps_43 town_names_41 goings_laws_ru world_lot_ world_born_ world_book_cells_ goings_sums_values_3 goings_lawsL_codeLength_ goings_lawsL_size_ goings_lawsL_take_ goings_sums_stack_4 goings_lawsL_kinds_ goings_lawsL_to_ goings_lawsL_from_ goings_lawsL_code_ (l1 + 1)).bind (un8 fun count_44 places_45 parts_46 town_sizes_47 town_heaps_48 town_names_49 goings_sums_values_50 goings_sums_stack_51 =>
        (f_town_unpack town_names_49 town_sizes_47 town_heaps_48 r39).bind (un3 fun town_names_52 town_sizes_53 town_heaps_54 =>
        some (count_44, places_45, parts_46, town_names_52, town_sizes_53, town_heaps_54, goings_sums_values_50, goings_sums_stack_51))))))))
def fj_ways_followIn_37 (F_ways_follow : Int32 → Int32 → Int32 → Int32 → Int32 → (Nat → Int32) → (Nat → Nat → Int32) → Int32 → (Nat → Int32) → (Nat → Nat → Int32) → (Nat → Int32) → Nat → (Nat → Int32) → (Nat → Int32) → (Nat → Int32) → (Nat → Int32) → Int32 → Int32 → Int32 → (Nat → Int32) → (Nat → Int32) → (Nat → Int32) → (Nat → Int32) → (Nat → Int32) → Int32 → Option ((Int32 × (Nat → Int32) × (Nat → Nat → Int32) × (Nat → Int32) × (Nat → Nat → Int32) × (Nat → Int32) × (Nat → Int32) × (Nat → Int32)))) (F_ways_followGoing : Int32 → Int32 → Int32 → Int32 → Int32 → (Nat → Int32) → (Nat → Nat → Int32) → (Nat → Int32) → Int32 → Nat → (Nat → Int32) → (Nat → Int32) → (Nat → Nat → Int32) → (Nat → Int32) → (Nat → Int32) → (Nat → Int32) → Int32 → Int32 → Int32 → (Nat → Int32) → (Nat → Int32) → (Nat → Int32) → (Nat → Int32) → (Nat → Int32) → Int32 → Int32 → Int32 → Option ((Int32 × (Nat → Int32) × (Nat → Nat → Int32) × (Nat → Int32) × (Nat → Int32) × (Nat → Nat → Int32) × (Nat → Int32) × (Nat → Int32)))) (F_ways_followIn : Int32 → Int32 → Int32 → Int32 → Int32 → (Nat → Int32) → (Nat → Nat → Int32) → (Nat → Int32) → (Nat → Nat → Int32) → Int32 → (Nat → Int32) → Nat → (Nat → Int32) → (Nat → Int32) → (Nat → Int32) → (Nat → Int32) → Int32 → Int32 → Int32 → (Nat → Int32) → (Nat → Int32) → (Nat → Int32) → (Nat → Int32) → (Nat → Int32) → Int32 → Int32 → Int32 → Int32 → Option ((Int32 × (Nat → Int32) × (Nat → Nat → Int32) × (Nat → Int32) × (Nat → Nat → Int32) × (Nat → Int32) × (Nat → Int32) × (Nat → Int32)))) (count_ : Int32) (world_people_ : Int32) (world_gates_ : Int32) (world_hour_ : Int32) (world_ruling_ : Int32) (places_ : Nat → Int32) (parts_ : Nat → Nat → Int32) (town_sizes_ : Nat → Int32) (town_heaps_ : Nat → Nat → Int32) (world_book_size_ : Int32) (town_names_ : Nat → Int32) (goings_laws_ru : Nat) (world_lot_ : Nat → Int32) (world_born_ : Nat → Int32) (world_book_cells_ : Nat → Int32) (goings_sums_values_ : Nat → Int32) (goings_lawsL_codeLength_ : Int32) (goings_lawsL_size_ : Int32) (goings_lawsL_take_ : Int32) (goings_sums_stack_ : Nat → Int32) (goings_lawsL_kinds_ : Nat → Int32) (goings_lawsL_to_ : Nat → Int32) (goings_lawsL_from_ : Nat → Int32) (goings_lawsL_code_ : Nat → Int32) (l1 : Int32) (l2 : Int32) (l3 : Int32) (l4 : Int32) : Option ((Int32 × (Nat → Int32) × (Nat → Nat → Int32) × (Nat → Int32) × (Nat → Nat → Int32) × (Nat → Int32) × (Nat → Int32) × (Nat → Int32))) :=
  (f_town_packed town_sizes_ town_heaps_ town_names_).bind (fun r3 =>
  (f_town_enter town_sizes_ town_heaps_ town_names_ l2 l3 l4).bind (un4 fun r4 town_sizes_5 town_heaps_6 town_names_7 =>
  (F_ways_follow count_ world_people_ world_gates_ world_hour_ world_ruling_ places_ parts_ world_book_size_ town_sizes_5 town_heaps_6 town_names_7 goings_laws_ru world_lot_ world_born_ world_book_cells_ goings_sums_values_ goings_lawsL_codeLength_ goings_lawsL_size_ goings_lawsL_take_ goings_sums_stack_ goings_lawsL_kinds_ goings_lawsL_to_ goings_lawsL_from_ goings_lawsL_code_ (l1 + 1)).bind (un8 fun count_8 places_9 parts_10 town_sizes_11 town_heaps_12 town_names_13 goings_sums_values_14 goings_sums_stack_15 =>
  (f_town_unpack town_names_13 town_sizes_11 town_heaps_12 r3).bind (un3 fun town_names_16 town_sizes_17 town_heaps_18 =>
  some (count_8, places_9, parts_10, town_sizes_17, town_heaps_18, town_names_16, goings_sums_values_14, goings_sums_stack_15)))))
def fR_ways_followIn (F_ways_follow : Int32 → Int32 → Int32 → Int32 → Int32 → (Nat → Int32) → (Nat → Nat → Int32) → Int32 → (Nat → Int32) → (Nat → Nat → Int32) → (Nat → Int32) → Nat → (Nat → Int32) → (Nat → Int32) → (Nat → Int32) → (Nat → Int32) → Int32 → Int32 → Int32 → (Nat → Int32) → (Nat → Int32) → (Nat → Int32) → (Nat → Int32) → (Nat → Int32) → Int32 → Option ((Int32 × (Nat → Int32) × (Nat → Nat → Int32) × (Nat → Int32) × (Nat → Nat → Int32) × (Nat → Int32) × (Nat → Int32) × (Nat → Int32)))) (F_ways_followGoing : Int32 → Int32 → Int32 → Int32 → Int32 → (Nat → Int32) → (Nat → Nat → Int32) → (Nat → Int32) → Int32 → Nat → (Nat → Int32) → (Nat → Int32) → (Nat → Nat → Int32) → (Nat → Int32) → (Nat → Int32) → (Nat → Int32) → Int32 → Int32 → Int32 → (Nat → Int32) → (Nat → Int32) → (Nat → Int32) → (Nat → Int32) → (Nat → Int32) → Int32 → Int32 → Int32 → Option ((Int32 × (Nat → Int32) × (Nat → Nat → Int32) × (Nat → Int32) × (Nat → Int32) × (Nat → Nat → Int32) × (Nat → Int32) × (Nat → Int32)))) (F_ways_followIn : Int32 → Int32 → Int32 → Int32 → Int32 → (Nat → Int32) → (Nat → Nat → Int32) → (Nat → Int32) → (Nat → Nat → Int32) → Int32 → (Nat → Int32) → Nat → (Nat → Int32) → (Nat → Int32) → (Nat → Int32) → (Nat → Int32) → Int32 → Int32 → Int32 → (Nat → Int32) → (Nat → Int32) → (Nat → Int32) → (Nat → Int32) → (Nat → Int32) → Int32 → Int32 → Int32 → Int32 → Option ((Int32 × (Nat → Int32) × (Nat → Nat → Int32) × (Nat → Int32) × (Nat → Nat → Int32) × (Nat → Int32) × (Nat → Int32) × (Nat → Int32)))) (count_ : Int32) (world_people_ : Int32) (world_gates_ : Int32) (world_hour_ : Int32) (world_ruling_ : Int32) (places_ : Nat → Int32) (parts_ : Nat → Nat → Int32) (town_sizes_ : Nat → Int32) (town_heaps_ : Nat → Nat → Int32) (world_book_size_ : Int32) (town_names_ : Nat → Int32) (goings_laws_ru : Nat) (world_lot_ : Nat → Int32) (world_born_ : Nat → Int32) (world_book_cells_ : Nat → Int32) (goings_sums_values_ : Nat → Int32) (goings_lawsL_codeLength_ : Int32) (goings_lawsL_size_ : Int32) (goings_lawsL_take_ : Int32) (goings_sums_stack_ : Nat → Int32) (goings_lawsL_kinds_ : Nat → Int32) (goings_lawsL_to_ : Nat → Int32) (goings_lawsL_from_ : Nat → Int32) (goings_lawsL_code_ : Nat → Int32) (l1 : Int32) (l2 : Int32) (l3 : Int32) (l4 : Int32) : Option ((Int32 × (Nat → Int32) × (Nat → Nat → Int32) × (Nat → Int32) × (Nat → Nat → Int32) × (Nat → Int32) × (Nat → Int32) × (Nat → Int32))) :=
  (f_town_nameAt town_sizes_ town_heaps_ l3 l4).bind (fun r1 =>
  (f_ways_isLost world_book_size_ world_book_cells_ l1).bind (fun r2 =>
  if r2 = 0 then
    (f_tri_at world_book_size_ 18 world_book_cells_ l1 1).bind (fun r23 =>
    if r1 = r23 then
      fj_ways_followIn_37 F_ways_follow F_ways_followGoing F_ways_followIn count_ world_people_ world_gates_ world_hour_ world_ruling_ places_ parts_ town_sizes_ town_heaps_ world_book_size_ town_names_ goings_laws_ru world_lot_ world_born_ world_book_cells_ goings_sums_values_ goings_lawsL_codeLength_ goings_lawsL_size_ goings_lawsL_take_ goings_sums_stack_ goings_lawsL_kinds_ goings_lawsL_to_ goings_lawsL_from_ goings_lawsL_code_ l1 l2 l3 l4
    else
      some (count_, places_, parts_, town_sizes_, town_heaps_, town_names_, goings_sums_values_, goings_sums_stack_))
  else
    fj_ways_followIn_37 F_ways_follow F_ways_followGoing F_ways_followIn count_ world_people_ world_gates_ world_hour_ world_ruling_ places_ parts_ town_sizes_ town_heaps_ world_book_size_ town_names_ goings_laws_ru world_lot_ world_born_ world_book_cells_ goings_sums_values_ goings_lawsL_codeLength_ goings_lawsL_size_ goings_lawsL_take_ goings_sums_stack_ goings_lawsL_kinds_ goings_lawsL_to_ goings_lawsL_from_ goings_lawsL_code_ l1 l2 l3 l4))
def FG_ways_follow : Nat → (Int32 → Int32 → Int32 → Int32 → Int32 → (Nat → Int32) → (Nat → Nat → Int32) → Int32 → (Nat → Int32) → (Nat → Nat → Int32) → (Nat → Int32) → Nat → (Nat → Int32) → (Nat → Int32) → (Nat → Int32) → (Nat → Int32) → Int32 → Int32 → Int32 → (Nat → Int32) → (Nat → Int32) → (Nat → Int32) → (Nat → Int32) → (Nat → Int32) → Int32 → Option ((Int32 × (Nat → Int32) × (Nat → Nat → Int32) × (Nat → Int32) × (Nat → Nat → Int32) × (Nat → Int32) × (Nat → Int32) × (Nat → Int32)))) × (Int32 → Int32 → Int32 → Int32 → Int32 → (Nat → Int32) → (Nat → Nat → Int32) → (Nat → Int32) → Int32 → Nat → (Nat → Int32) → (Nat → Int32) → (Nat → Nat → Int32) → (Nat → Int32) → (Nat → Int32) → (Nat → Int32) → Int32 → Int32 → Int32 → (Nat → Int32) → (Nat → Int32) → (Nat → Int32) → (Nat → Int32) → (Nat → Int32) → Int32 → Int32 → Int32 → Option ((Int32 × (Nat → Int32) × (Nat → Nat → Int32) × (Nat → Int32) × (Nat → Int32) × (Nat → Nat → Int32) × (Nat → Int32) × (Nat → Int32)))) × (Int32 → Int32 → Int32 → Int32 → Int32 → (Nat → Int32) → (Nat → Nat → Int32) → (Nat → Int32) → (Nat → Nat → Int32) → Int32 → (Nat → Int32) → Nat → (Nat → Int32) → (Nat → Int32) → (Nat → Int32) → (Nat → Int32) → Int32 → Int32 → Int32 → (Nat → Int32) → (Nat → Int32) → (Nat → Int32) → (Nat → Int32) → (Nat → Int32) → Int32 → Int32 → Int32 → Int32 → Option ((Int32 × (Nat → Int32) × (Nat → Nat → Int32) × (Nat → Int32) × (Nat → Nat → Int32) × (Nat → Int32) × (Nat → Int32) × (Nat → Int32))))
  | 0 => ((fun _ _ _ _ _ _ _ _ _ _ _ _ _ _ _ _ _ _ _ _ _ _ _ _ _ => none), (fun _ _ _ _ _ _ _ _ _ _ _ _ _ _ _ _ _ _ _ _ _ _ _ _ _ _ _ => none), (fun _ _ _ _ _ _ _ _ _ _ _ _ _ _ _ _ _ _ _ _ _ _ _ _ _ _ _ _ => none))
  | n + 1 => ((fR_ways_follow (FG_ways_follow n).1 (FG_ways_follow n).2.1 (FG_ways_follow n).2.2), (fR_ways_followGoing (FG_ways_follow n).1 (FG_ways_follow n).2.1 (FG_ways_follow n).2.2), (fR_ways_followIn (FG_ways_follow n).1 (FG_ways_follow n).2.1 (FG_ways_follow n).2.2))
def f_ways_follow (count_ : Int32) (world_people_ : Int32) (world_gates_ : Int32) (world_hour_ : Int32) (world_ruling_ : Int32) (places_ : Nat → Int32) (parts_ : Nat → Nat → Int32) (world_book_size_ : Int32) (town_sizes_ : Nat → Int32) (town_heaps_ : Nat → Nat → Int32) (town_names_ : Nat → Int32) (goings_laws_ru : Nat) (world_lot_ : Nat → Int32) (world_born_ : Nat → Int32) (world_book_cells_ : Nat → Int32) (goings_sums_values_ : Nat → Int32) (goings_lawsL_codeLength_ : Int32) (goings_lawsL_size_ : Int32) (goings_lawsL_take_ : Int32) (goings_sums_stack_ : Nat → Int32) (goings_lawsL_kinds_ : Nat → Int32) (goings_lawsL_to_ : Nat → Int32) (goings_lawsL_from_ : Nat → Int32) (goings_lawsL_code_ : Nat → Int32) (l1 : Int32) : Option ((Int32 × (Nat → Int32) × (Nat → Nat → Int32) × (Nat → Int32) × (Nat → Nat → Int32) × (Nat → Int32) × (Nat → Int32) × (Nat → Int32))) := (FG_ways_follow 26).1 count_ world_people_ world_gates_ world_hour_ world_ruling_ places_ parts_ world_book_size_ town_sizes_ town_heaps_ town_names_ goings_laws_ru world_lot_ world_born_ world_book_cells_ goings_sums_values_ goings_lawsL_codeLength_ goings_lawsL_size_ goings_lawsL_take_ goings_sums_stack_ goings_lawsL_kinds_ goings_lawsL_to_ goings_lawsL_from_ goings_lawsL_code_ l1
def f_ways_followGoing (count_ : Int32) (world_people_ : Int32) (world_gates_ : Int32) (world_hour_ : Int32) (world_ruling_ : Int32) (places_ : Nat → Int32) (parts_ : Nat → Nat → Int32) (town_names_ : Nat → Int32) (world_book_size_ : Int32) (goings_laws_ru : Nat) (town_sizes_ : Nat → Int32) (world_lot_ : Nat → Int32) (town_heaps_ : Nat → Nat → Int32) (world_born_ : Nat → Int32) (world_book_cells_ : Nat → Int32) (goings_sums_values_ : Nat → Int32) (goings_lawsL_codeLength_ : Int32) (goings_lawsL_size_ : Int32) (goings_lawsL_take_ : Int32) (goings_sums_stack_ : Nat → Int32) (goings_lawsL_kinds_ : Nat → Int32) (goings_lawsL_to_ : Nat → Int32) (goings_lawsL_from_ : Nat → Int32) (goings_lawsL_code_ : Nat → Int32) (l1 : Int32) (l2 : Int32) (l3 : Int32) : Option ((Int32 × (Nat → Int32) × (Nat → Nat → Int32) × (Nat → Int32) × (Nat → Int32) × (Nat → Nat → Int32) × (Nat → Int32) × (Nat → Int32))) := (FG_ways_follow 26).2.1 count_ world_people_ world_gates_ world_hour_ world_ruling_ places_ parts_ town_names_ world_book_size_ goings_laws_ru town_sizes_ world_lot_ town_heaps_ world_born_ world_book_cells_ goings_sums_values_ goings_lawsL_codeLength_ goings_lawsL_size_ goings_lawsL_take_ goings_sums_stack_ goings_lawsL_kinds_ goings_lawsL_to_ goings_lawsL_from_ goings_lawsL_code_ l1 l2 l3
def f_ways_followIn (count_ : Int32) (world_people_ : Int32) (world_gates_ : Int32) (world_hour_ : Int32) (world_ruling_ : Int32) (places_ : Nat → Int32) (parts_ : Nat → Nat → Int32) (town_sizes_ : Nat → Int32) (town_heaps_ : Nat → Nat → Int32) (world_book_size_ : Int32) (town_names_ : Nat → Int32) (goings_laws_ru : Nat) (world_lot_ : Nat → Int32) (world_born_ : Nat → Int32) (world_book_cells_ : Nat → Int32) (goings_sums_values_ : Nat → Int32) (goings_lawsL_codeLength_ : Int32) (goings_lawsL_size_ : Int32) (goings_lawsL_take_ : Int32) (goings_sums_stack_ : Nat → Int32) (goings_lawsL_kinds_ : Nat → Int32) (goings_lawsL_to_ : Nat → Int32) (goings_lawsL_from_ : Nat → Int32) (goings_lawsL_code_ : Nat → Int32) (l1 : Int32) (l2 : Int32) (l3 : Int32) (l4 : Int32) : Option ((Int32 × (Nat → Int32) × (Nat → Nat → Int32) × (Nat → Int32) × (Nat → Nat → Int32) × (Nat → Int32) × (Nat → Int32) × (Nat → Int32))) := (FG_ways_follow 26).2.2 count_ world_people_ world_gates_ world_hour_ world_ruling_ places_ parts_ town_sizes_ town_heaps_ world_book_size_ town_names_ goings_laws_ru world_lot_ world_born_ world_book_cells_ goings_sums_values_ goings_lawsL_codeLength_ goings_lawsL_size_ goings_lawsL_take_ goings_sums_stack_ goings_lawsL_kinds_ goings_lawsL_to_ goings_lawsL_from_ goings_lawsL_code_ l1 l2 l3 l4
def fb_ways_reckon_15 (l1 : Int32) (parts_ : Nat → Nat → Int32) : Option ((Int32 × (Nat → Nat → Int32)) ⊕ (Nat → Nat → Int32)) :=
  if l1 < 8 then
    if inb l1 8 then
      (f_arr_fill_II 9 (parts_ (ix l1)) 0).bind (fun f4 =>
      bnd (setR parts_ (ix l1) f4 : Nat → Nat → Int32) fun parts_5 =>
      some (.inl (l1 + 1, parts_5)))
    else none
  else
    some (.inr parts_)
def f_ways_reckon (count_ : Int32) (places_ : Nat → Int32) (world_people_ : Int32) (world_gates_ : Int32) (world_hour_ : Int32) (world_ruling_ : Int32) (parts_ : Nat → Nat → Int32) (town_names_ : Nat → Int32) (town_sizes_ : Nat → Int32) (town_heaps_ : Nat → Nat → Int32) (world_book_size_ : Int32) (goings_laws_ru : Nat) (world_lot_ : Nat → Int32) (world_born_ : Nat → Int32) (world_town_names_ : Nat → Int32) (world_town_sizes_ : Nat → Int32) (world_town_heaps_ : Nat → Nat → Int32) (world_book_cells_ : Nat → Int32) (goings_sums_values_ : Nat → Int32) (goings_lawsL_codeLength_ : Int32) (goings_lawsL_size_ : Int32) (goings_lawsL_take_ : Int32) (goings_sums_stack_ : Nat → Int32) (goings_lawsL_kinds_ : Nat → Int32) (goings_lawsL_to_ : Nat → Int32) (goings_lawsL_from_ : Nat → Int32) (goings_lawsL_code_ : Nat → Int32) : Option ((Int32 × (Nat → Int32) × (Nat → Nat → Int32) × (Nat → Int32) × (Nat → Int32) × (Nat → Nat → Int32) × (Nat → Int32) × (Nat → Int32))) :=
  (f_arr_fill_II 8 places_ 0).bind (fun places_1 =>
  (itr (un2 fb_ways_reckon_15) KF (0, parts_)).bind
    (fun parts_6 =>
      (f_town_copyFrom town_names_ town_sizes_ town_heaps_ world_town_names_ world_town_sizes_ world_town_heaps_).bind (un3 fun town_names_7 town_sizes_8 town_heaps_9 =>
      (f_ways_follow 0 world_people_ world_gates_ world_hour_ world_ruling_ places_1 parts_6 world_book_size_ town_sizes_8 town_heaps_9 town_names_7 goings_laws_ru world_lot_ world_born_ world_book_cells_ goings_sums_values_ goings_lawsL_codeLength_ goings_lawsL_size_ goings_lawsL_take_ goings_sums_stack_ goings_lawsL_kinds_ goings_lawsL_to_ goings_lawsL_from_ goings_lawsL_code_ 0).bind (un8 fun count_10 places_11 parts_12 town_sizes_13 town_heaps_14 town_names_15 goings_sums_values_16 goings_sums_stack_17 =>
      some (count_10, places_11, parts_12, town_names_15, town_sizes_13, town_heaps_14, goings_sums_values_16, goings_sums_stack_17)))
    ))
def f_x_ways (book_count_ : Int32) (now_people_ : Int32) (now_gates_ : Int32) (now_hour_ : Int32) (now_ruling_ : Int32) (laws_ru : Nat) (book_places_ : Nat → Int32) (now_book_size_ : Int32) (book_parts_ : Nat → Nat → Int32) (lawsL_codeLength_ : Int32) (lawsL_size_ : Int32) (lawsL_take_ : Int32) (now_lot_ : Nat → Int32) (now_born_ : Nat → Int32) (now_town_names_ : Nat → Int32) (book_town_names_ : Nat → Int32) (now_town_sizes_ : Nat → Int32) (book_town_sizes_ : Nat → Int32) (now_town_heaps_ : Nat → Nat → Int32) (book_town_heaps_ : Nat → Nat → Int32) (now_book_cells_ : Nat → Int32) (goings_sums_values_ : Nat → Int32) (lawsL_kinds_ : Nat → Int32) (lawsL_to_ : Nat → Int32) (lawsL_from_ : Nat → Int32) (goings_sums_stack_ : Nat → Int32) (lawsL_code_ : Nat → Int32) : Option ((Int32 × Int32 × (Nat → Int32) × (Nat → Nat → Int32) × (Nat → Int32) × (Nat → Int32) × (Nat → Nat → Int32) × (Nat → Int32) × (Nat → Int32))) :=
  (f_ways_reckon book_count_ book_places_ now_people_ now_gates_ now_hour_ now_ruling_ book_parts_ book_town_names_ book_town_sizes_ book_town_heaps_ now_book_size_ laws_ru now_lot_ now_born_ now_town_names_ now_town_sizes_ now_town_heaps_ now_book_cells_ goings_sums_values_ lawsL_codeLength_ lawsL_size_ lawsL_take_ goings_sums_stack_ lawsL_kinds_ lawsL_to_ lawsL_from_ lawsL_code_).bind (un8 fun book_count_1 book_places_2 book_parts_3 book_town_names_4 book_town_sizes_5 book_town_heaps_6 goings_sums_values_7 goings_sums_stack_8 =>
  some (book_count_1, book_count_1, book_places_2, book_parts_3, book_town_names_4, book_town_sizes_5, book_town_heaps_6, goings_sums_values_7, goings_sums_stack_8))
def f_x_may (book_count_ : Int32) (now_people_ : Int32) (now_gates_ : Int32) (now_hour_ : Int32) (now_ruling_ : Int32) (laws_ru : Nat) (book_places_ : Nat → Int32) (now_book_size_ : Int32) (book_parts_ : Nat → Nat → Int32) (lawsL_codeLength_ : Int32) (lawsL_size_ : Int32) (lawsL_take_ : Int32) (now_lot_ : Nat → Int32) (now_born_ : Nat → Int32) (now_town_names_ : Nat → Int32) (book_town_names_ : Nat → Int32) (now_town_sizes_ : Nat → Int32) (book_town_sizes_ : Nat → Int32) (now_town_heaps_ : Nat → Nat → Int32) (book_town_heaps_ : Nat → Nat → Int32) (now_book_cells_ : Nat → Int32) (goings_sums_values_ : Nat → Int32) (lawsL_kinds_ : Nat → Int32) (lawsL_to_ : Nat → Int32) (lawsL_from_ : Nat → Int32) (goings_sums_stack_ : Nat → Int32) (lawsL_code_ : Nat → Int32) (l1 : Int32) : Option ((Int32 × Int32 × (Nat → Int32) × (Nat → Nat → Int32) × (Nat → Int32) × (Nat → Int32) × (Nat → Nat → Int32) × (Nat → Int32) × (Nat → Int32))) :=
  (f_x_isName l1).bind (fun r1 =>
  if r1 = 0 then
    some ((-1), book_count_, book_places_, book_parts_, book_town_names_, book_town_sizes_, book_town_heaps_, goings_sums_values_, goings_sums_stack_)
  else
    (f_ways_reckon book_count_ book_places_ now_people_ now_gates_ now_hour_ now_ruling_ book_parts_ book_town_names_ book_town_sizes_ book_town_heaps_ now_book_size_ laws_ru now_lot_ now_born_ now_town_names_ now_town_sizes_ now_town_heaps_ now_book_cells_ goings_sums_values_ lawsL_codeLength_ lawsL_size_ lawsL_take_ goings_sums_stack_ lawsL_kinds_ lawsL_to_ lawsL_from_ lawsL_code_).bind (un8 fun book_count_2 book_places_3 book_parts_4 book_town_names_5 book_town_sizes_6 book_town_heaps_7 goings_sums_values_8 goings_sums_stack_9 =>
    if inb l1 8 then
      some (book_places_3 (ix l1), book_count_2, book_places_3, book_parts_4, book_town_names_5, book_town_sizes_6, book_town_heaps_7, goings_sums_values_8, goings_sums_stack_9)
    else none))
def fb_ways_greatestPart_14 (parts_ : Nat → Nat → Int32) (l1 : Int32) (l2 : Int32) (l3 : Int32) : Option ((Int32 × Int32) ⊕ Int32) :=
  if inb l1 8 then
    if l3 < 9 then
      if inb l1 8 then
        if inb l3 9 then
          (f_math_max_II l2 (parts_ (ix l1) (ix l3))).bind (fun r4 =>
          some (.inl (r4, l3 + 1)))
        else none
      else none
    else
      some (.inr l2)
  else none
def f_ways_greatestPart (parts_ : Nat → Nat → Int32) (l1 : Int32) : Option (Int32) :=
  if l1 < 0 then
    some 0
  else
    if l1 < 8 then
      (itr (un2 (fb_ways_greatestPart_14 parts_ l1)) KF (0, 0)).bind
        (fun l2_6 =>
          some l2_6
        )
    else
      some 0
def fb_ways_whomToLookAt_4 (world_people_ : Int32) (parts_ : Nat → Nat → Int32) (l1 : Int32) (l2 : Int32) : Option ((Int32 × Int32) ⊕ Int32) :=
  if l2 < world_people_ then
    (f_ways_greatestPart parts_ l2).bind (fun r1 =>
    (f_ways_greatestPart parts_ l1).bind (fun r2 =>
    if r1 < r2 then
      some (.inl (l2, l2 + 1))
    else
      some (.inl (l1, l2 + 1))))
  else
    some (.inr l1)
def f_ways_whomToLookAt (world_people_ : Int32) (parts_ : Nat → Nat → Int32) : Option (Int32) :=
  (itr (un2 (fb_ways_whomToLookAt_4 world_people_ parts_)) KF (0, 1)).bind
    (fun l1_5 =>
      some l1_5
    )
def f_x_ask (now_people_ : Int32) (now_gates_ : Int32) (now_hour_ : Int32) (now_ruling_ : Int32) (book_count_ : Int32) (laws_ru : Nat) (book_places_ : Nat → Int32) (now_book_size_ : Int32) (book_parts_ : Nat → Nat → Int32) (lawsL_codeLength_ : Int32) (lawsL_size_ : Int32) (lawsL_take_ : Int32) (now_lot_ : Nat → Int32) (now_born_ : Nat → Int32) (now_town_names_ : Nat → Int32) (book_town_names_ : Nat → Int32) (now_town_sizes_ : Nat → Int32) (book_town_sizes_ : Nat → Int32) (now_town_heaps_ : Nat → Nat → Int32) (book_town_heaps_ : Nat → Nat → Int32) (now_book_cells_ : Nat → Int32) (goings_sums_values_ : Nat → Int32) (lawsL_kinds_ : Nat → Int32) (lawsL_to_ : Nat → Int32) (lawsL_from_ : Nat → Int32) (goings_sums_stack_ : Nat → Int32) (lawsL_code_ : Nat → Int32) (l1 : Int32) : Option ((Int32 × Int32 × (Nat → Int32) × (Nat → Nat → Int32) × (Nat → Int32) × (Nat → Int32) × (Nat → Nat → Int32) × (Nat → Int32) × (Nat → Int32))) :=
  if l1 < 0 then
    some ((-1), book_count_, book_places_, book_parts_, book_town_names_, book_town_sizes_, book_town_heaps_, goings_sums_values_, goings_sums_stack_)
  else
    if 1 < l1 then
      some ((-1), book_count_, book_places_, book_parts_, book_town_names_, book_town_sizes_, book_town_heaps_, goings_sums_values_, goings_sums_stack_)
    else
      if now_people_ = 0 then
        some ((-1), book_count_, book_places_, book_parts_, book_town_names_, book_town_sizes_, book_town_heaps_, goings_sums_values_, goings_sums_stack_)
      else
        (f_ways_reckon book_count_ book_places_ now_people_ now_gates_ now_hour_ now_ruling_ book_parts_ book_town_names_ book_town_sizes_ book_town_heaps_ now_book_size_ laws_ru now_lot_ now_born_ now_town_names_ now_town_sizes_ now_town_heaps_ now_book_cells_ goings_sums_values_ lawsL_codeLength_ lawsL_size_ lawsL_take_ goings_sums_stack_ lawsL_kinds_ lawsL_to_ lawsL_from_ lawsL_code_).bind (un8 fun book_count_1 book_places_2 book_parts_3 book_town_names_4 book_town_sizes_5 book_town_heaps_6 goings_sums_values_7 goings_sums_stack_8 =>
        if book_count_1 = 0 then
          some ((-1), book_count_1, book_places_2, book_parts_3, book_town_names_4, book_town_sizes_5, book_town_heaps_6, goings_sums_values_7, goings_sums_stack_8)
        else
          (f_ways_whomToLookAt now_people_ book_parts_3).bind (fun r9 =>
          if l1 = 0 then
            some (r9, book_count_1, book_places_2, book_parts_3, book_town_names_4, book_town_sizes_5, book_town_heaps_6, goings_sums_values_7, goings_sums_stack_8)
          else
            (f_ways_greatestPart book_parts_3 r9).bind (fun r10 =>
            some (r10, book_count_1, book_places_2, book_parts_3, book_town_names_4, book_town_sizes_5, book_town_heaps_6, goings_sums_values_7, goings_sums_stack_8))))
def f_srch_wantNothing (wanted_ : Nat → Int32) : Option (Nat → Int32) :=
  (f_arr_fill_II 8 wanted_ (-1)).bind (fun wanted_1 =>
  some wanted_1)
def f_srch_want (wanted_ : Nat → Int32) (l1 : Int32) (l2 : Int32) : Option (Nat → Int32) :=
  if l1 < 0 then
    some wanted_
  else
    if l1 < 8 then
      if inb l1 8 then
        bnd (upd wanted_ (ix l1) l2 : Nat → Int32) fun wanted_2 =>
        some wanted_2
      else none
    else
      some wanted_
def f_world_isInside (people_ : Int32) (town_names_ : Nat → Int32) (l1 : Int32) : Option (Int32) :=
  (f_world_hasPerson people_ l1).bind (fun r1 =>
  if r1 = 0 then
    some 0
  else
    (f_town_nameOf town_names_ l1).bind (fun r2 =>
    if r2 = (-1) then
      some 0
    else
      some 1))
def fj_x_setGoal_96 (now_people_ : Int32) (search_wanted_ : Nat → Int32) (now_town_names_ : Nat → Int32) (l1 : Int32) (l2 : Int32) (l3 : Int32) : Option ((Int32 × (Nat → Int32))) :=
  if l1 = 1 then
    if l2 = l3 then
      some (0, search_wanted_)
    else
      (f_world_isInside now_people_ now_town_names_ l2).bind (fun r2 =>
      if r2 = 0 then
        some (0, search_wanted_)
      else
        (f_world_isInside now_people_ now_town_names_ l3).bind (fun r3 =>
        if r3 = 0 then
          some (0, search_wanted_)
        else
          (f_town_nameOf now_town_names_ l3).bind (fun r4 =>
          (f_srch_want search_wanted_ l2 r4).bind (fun search_wanted_5 =>
          (f_town_nameOf now_town_names_ l2).bind (fun r6 =>
          (f_srch_want search_wanted_5 l3 r6).bind (fun search_wanted_7 =>
          some (1, search_wanted_7)))))))
  else
    some (0, search_wanted_)
def fj_x_setGoal_52_15 (now_people_ : Int32) (search_wanted_ : Nat → Int32) (now_born_ : Nat → Int32) (l4 : Int32) (s0 : Int32) (s1 : Int32) : Option ((Int32 × (Nat → Int32)) ⊕ (Nat → Int32)) :=
  (f_srch_want search_wanted_ s0 s1).bind (fun search_wanted_21 =>
  some (.inl (l4 + 1, search_wanted_21)))
def fb_x_setGoal_15 (now_people_ : Int32) (now_born_ : Nat → Int32) (l4 : Int32) (search_wanted_ : Nat → Int32) : Option ((Int32 × (Nat → Int32)) ⊕ (Nat → Int32)) :=
  if l4 < now_people_ then
    if inb l4 8 then
      if (now_born_ (ix l4)) = 0 then
        fj_x_setGoal_52_15 now_people_ search_wanted_ now_born_ l4 l4 (-1)
      else
        fj_x_setGoal_52_15 now_people_ search_wanted_ now_born_ l4 l4 l4
    else none
  else
    some (.inr search_wanted_)
def f_x_setGoal (now_people_ : Int32) (search_wanted_ : Nat → Int32) (now_born_ : Nat → Int32) (now_town_names_ : Nat → Int32) (l1 : Int32) (l2 : Int32) (l3 : Int32) : Option ((Int32 × (Nat → Int32))) :=
  (f_srch_wantNothing search_wanted_).bind (fun search_wanted_1 =>
  if l1 = 2 then
    (itr (un2 (fb_x_setGoal_15 now_people_ now_born_)) KF (0, search_wanted_1)).bind
      (fun search_wanted_23 =>
        some (1, search_wanted_23)
      )
  else
    if l1 = 0 then
      (f_world_hasPerson now_people_ l2).bind (fun r14 =>
      if r14 = 0 then
        fj_x_setGoal_96 now_people_ search_wanted_1 now_town_names_ l1 l2 l3
      else
        (f_x_isName l3).bind (fun r15 =>
        if r15 = 0 then
          fj_x_setGoal_96 now_people_ search_wanted_1 now_town_names_ l1 l2 l3
        else
          (f_srch_want search_wanted_1 l2 l3).bind (fun search_wanted_16 =>
          some (1, search_wanted_16))))
    else
      fj_x_setGoal_96 now_people_ search_wanted_1 now_town_names_ l1 l2 l3)
def fb_srch_slotOf_13 (table_ : Nat → Int32) (states_ : Nat → Int64) (l1 : Int64) (l3 : Int32) (l4 : Int32) : Option ((Int32 × Int32) ⊕ (Int32 ⊕ Int32)) :=
  if l4 < 4096 then
    if inb l3 4096 then
      if 0 < (table_ (ix l3)) then
        if 3000 < (table_ (ix l3)) then
          some (.inr (.inl l3))
        else
          if inb ((table_ (ix l3)) - 1) 3000 then
            if (lg_cmp (states_ (ix ((table_ (ix l3)) - 1))) l1) = 0 then
              some (.inr (.inl l3))
            else
              some (.inl ((l3 + 1) &&& 4095, l4 + 1))
          else none
      else
        some (.inr (.inl l3))
    else none
  else
    some (.inr (.inr (l3)))
def f_srch_slotOf (table_ : Nat → Int32) (states_ : Nat → Int64) (l1 : Int64) : Option (Int32) :=
  bnd ((((l1 * (Int64.ofInt (-7046029254386353131))).toUInt64 >>> ((52 : Int32).toInt64.toUInt64 &&& Int64.toUInt64 63)).toInt64).toInt32 : Int32) fun t1 =>
  (itr (un2 (fb_srch_slotOf_13 table_ states_ l1)) KF (t1, 0)).bind
    (Sum.elim
      (fun l3_4 =>
        some l3_4
      )
      (fun l3_5 =>
        some l3_5
      )
    )
def fj_srch_add_62 (size_ : Int32) (table_ : Nat → Int32) (states_ : Nat → Int64) (origins_ : Nat → Int32) : Option ((Int32 × Int32 × (Nat → Int32) × (Nat → Int64) × (Nat → Int32))) :=
  some (1, size_ + 1, table_, states_, origins_)
def f_srch_add (size_ : Int32) (table_ : Nat → Int32) (states_ : Nat → Int64) (origins_ : Nat → Int32) (l1 : Int64) (l3 : Int32) : Option ((Int32 × Int32 × (Nat → Int32) × (Nat → Int64) × (Nat → Int32))) :=
  (f_srch_slotOf table_ states_ l1).bind (fun r1 =>
  if inb r1 4096 then
    if (table_ (ix r1)) = 0 then
      if size_ < 3000 then
        if inb size_ 3000 then
          bnd (vp_updL states_ (ix size_) l1 : Nat → Int64) fun states_4 =>
          if inb size_ 3000 then
            bnd (upd origins_ (ix size_) l3 : Nat → Int32) fun origins_6 =>
            if inb r1 4096 then
              bnd (upd table_ (ix r1) (size_ + 1) : Nat → Int32) fun table_8 =>
              some (1, size_ + 1, table_8, states_4, origins_6)
            else none
          else none
        else none
      else
        fj_srch_add_62 size_ table_ states_ origins_
    else
      some (0, size_, table_, states_, origins_)
  else none)
def fb_srch_isAsWanted_2 (wanted_ : Nat → Int32) (town_names_ : Nat → Int32) (l1 : Int32) : Option (Int32 ⊕ (Unit ⊕ Unit)) :=
  if l1 < 8 then
    if inb l1 8 then
      if (wanted_ (ix l1)) = (-1) then
        some (.inl (l1 + 1))
      else
        (f_town_nameOf town_names_ l1).bind (fun r2 =>
        if inb l1 8 then
          if r2 = (wanted_ (ix l1)) then
            some (.inl (l1 + 1))
          else
            some (.inr (.inl ()))
        else none)
    else none
  else
    some (.inr (.inr (())))
def f_srch_isAsWanted (wanted_ : Nat → Int32) (town_names_ : Nat → Int32) : Option (Int32) :=
  (itr (fb_srch_isAsWanted_2 wanted_ town_names_) KF 0).bind
    (Sum.elim
      (fun _ =>
        some 0
      )
      (fun _ =>
        some 1
      )
    )
def fj_srch_goOnFrom_136_29 (size_ : Int32) (states_ : Nat → Int64) (world_people_ : Int32) (world_gates_ : Int32) (world_hour_ : Int32) (world_ruling_ : Int32) (table_ : Nat → Int32) (origins_ : Nat → Int32) (wanted_ : Nat → Int32) (town_names_ : Nat → Int32) (town_sizes_ : Nat → Int32) (town_heaps_ : Nat → Nat → Int32) (world_lot_ : Nat → Int32) (goings_laws_ru : Nat) (world_born_ : Nat → Int32) (goings_sums_values_ : Nat → Int32) (goings_lawsL_codeLength_ : Int32) (goings_lawsL_size_ : Int32) (goings_lawsL_take_ : Int32) (goings_sums_stack_ : Nat → Int32) (goings_lawsL_kinds_ : Nat → Int32) (goings_lawsL_to_ : Nat → Int32) (goings_lawsL_from_ : Nat → Int32) (goings_lawsL_code_ : Nat → Int32) (l1 : Int32) (l2 : Int32) (l3 : Int32) (l4 : Int32) : Option ((Int32 × Int32 × (Nat → Int64) × (Nat → Int32) × (Nat → Int32) × (Nat → Int32) × (Nat → Int32) × (Nat → Nat → Int32) × (Nat → Int32) × (Nat → Int32)) ⊕ ((Int32 × (Nat → Int64) × (Nat → Int32) × (Nat → Int32) × (Nat → Int32) × (Nat → Int32) × (Nat → Nat → Int32) × (Nat → Int32) × (Nat → Int32)) ⊕ (Int32 × (Nat → Int64) × (Nat → Int32) × (Nat → Int32) × (Nat → Int32) × (Nat → Int32) × (Nat → Nat → Int32) × (Nat → Int32) × (Nat → Int32)) ⊕ (Int32 × (Nat → Int64) × (Nat → Int32) × (Nat → Int32) × (Nat → Int32) × (Nat → Int32) × (Nat → Nat → Int32) × (Nat → Int32) × (Nat → Int32)))) :=
  if inb l1 3000 then
    (f_town_unpack town_names_ town_sizes_ town_heaps_ (states_ (ix l1))).bind (un3 fun town_names_19 town_sizes_20 town_heaps_21 =>
    some (.inl (l4 + 1, size_, states_, table_, origins_, town_names_19, town_sizes_20, town_heaps_21, goings_sums_values_, goings_sums_stack_)))
  else none
def fb_srch_goOnFrom_29 (world_people_ : Int32) (world_gates_ : Int32) (world_hour_ : Int32) (world_ruling_ : Int32) (wanted_ : Nat → Int32) (world_lot_ : Nat → Int32) (goings_laws_ru : Nat) (world_born_ : Nat → Int32) (goings_lawsL_codeLength_ : Int32) (goings_lawsL_size_ : Int32) (goings_lawsL_take_ : Int32) (goings_lawsL_kinds_ : Nat → Int32) (goings_lawsL_to_ : Nat → Int32) (goings_lawsL_from_ : Nat → Int32) (goings_lawsL_code_ : Nat → Int32) (l1 : Int32) (l2 : Int32) (l3 : Int32) (l4 : Int32) (size_ : Int32) (states_ : Nat → Int64) (table_ : Nat → Int32) (origins_ : Nat → Int32) (town_names_ : Nat → Int32) (town_sizes_ : Nat → Int32) (town_heaps_ : Nat → Nat → Int32) (goings_sums_values_ : Nat → Int32) (goings_sums_stack_ : Nat → Int32) : Option ((Int32 × Int32 × (Nat → Int64) × (Nat → Int32) × (Nat → Int32) × (Nat → Int32) × (Nat → Int32) × (Nat → Nat → Int32) × (Nat → Int32) × (Nat → Int32)) ⊕ ((Int32 × (Nat → Int64) × (Nat → Int32) × (Nat → Int32) × (Nat → Int32) × (Nat → Int32) × (Nat → Nat → Int32) × (Nat → Int32) × (Nat → Int32)) ⊕ (Int32 × (Nat → Int64) × (Nat → Int32) × (Nat → Int32) × (Nat → Int32) × (Nat → Int32) × (Nat → Nat → Int32) × (Nat → Int32) × (Nat → Int32)) ⊕ (Int32 × (Nat → Int64) × (Nat → Int32) × (Nat → Int32) × (Nat → Int32) × (Nat → Int32) × (Nat → Nat → Int32) × (Nat → Int32) × (Nat → Int32)))) :=
  if l4 < world_gates_ then
    if ((l2 >>> (l3 &&& 31)) &&& 1) = 0 then
      some (.inl (l4 + 1, size_, states_, table_, origins_, town_names_, town_sizes_, town_heaps_, goings_sums_values_, goings_sums_stack_))
    else
      if inb l4 3 then
        if (world_lot_ (ix l4)) = 0 then
          (f_go_doTried world_people_ world_gates_ world_hour_ world_ruling_ goings_laws_ru goings_sums_values_ goings_lawsL_codeLength_ goings_lawsL_size_ goings_lawsL_take_ goings_sums_stack_ world_lot_ world_born_ goings_lawsL_kinds_ goings_lawsL_to_ goings_lawsL_from_ goings_lawsL_code_ town_names_ town_sizes_ town_heaps_ l3 l4).bind (un6 fun r6 goings_sums_values_7 goings_sums_stack_8 town_names_9 town_sizes_10 town_heaps_11 =>
          if r6 = (-1) then
            some (.inl (l4 + 1, size_, states_, table_, origins_, town_names_9, town_sizes_10, town_heaps_11, goings_sums_values_7, goings_sums_stack_8))
          else
            (f_town_packed town_sizes_10 town_heaps_11 town_names_9).bind (fun r12 =>
            (f_srch_add size_ table_ states_ origins_ r12 (((l1 * 100) + (10 * l3)) + l4)).bind (un5 fun r13 size_14 table_15 states_16 origins_17 =>
            if r13 = 0 then
              fj_srch_goOnFrom_136_29 size_14 states_16 world_people_ world_gates_ world_hour_ world_ruling_ table_15 origins_17 wanted_ town_names_9 town_sizes_10 town_heaps_11 world_lot_ goings_laws_ru world_born_ goings_sums_values_7 goings_lawsL_codeLength_ goings_lawsL_size_ goings_lawsL_take_ goings_sums_stack_8 goings_lawsL_kinds_ goings_lawsL_to_ goings_lawsL_from_ goings_lawsL_code_ l1 l2 l3 l4
            else
              if 3000 < size_14 then
                some (.inr (.inl (size_14, states_16, table_15, origins_17, town_names_9, town_sizes_10, town_heaps_11, goings_sums_values_7, goings_sums_stack_8)))
              else
                (f_srch_isAsWanted wanted_ town_names_9).bind (fun r23 =>
                if r23 = 0 then
                  fj_srch_goOnFrom_136_29 size_14 states_16 world_people_ world_gates_ world_hour_ world_ruling_ table_15 origins_17 wanted_ town_names_9 town_sizes_10 town_heaps_11 world_lot_ goings_laws_ru world_born_ goings_sums_values_7 goings_lawsL_codeLength_ goings_lawsL_size_ goings_lawsL_take_ goings_sums_stack_8 goings_lawsL_kinds_ goings_lawsL_to_ goings_lawsL_from_ goings_lawsL_code_ l1 l2 l3 l4
                else
                  some (.inr (.inr (.inl (size_14, states_16, table_15, origins_17, town_names_9, town_sizes_10, town_heaps_11, goings_sums_values_7, goings_sums_stack_8))))))))
        else
          some (.inl (l4 + 1, size_, states_, table_, origins_, town_names_, town_sizes_, town_heaps_, goings_sums_values_, goings_sums_stack_))
      else none
  else
    some (.inr (.inr (.inr ((size_, states_, table_, origins_, town_names_, town_sizes_, town_heaps_, goings_sums_values_, goings_sums_stack_)))))
def fb_srch_goOnFrom_15 (world_people_ : Int32) (world_gates_ : Int32) (world_hour_ : Int32) (world_ruling_ : Int32) (wanted_ : Nat → Int32) (world_lot_ : Nat → Int32) (goings_laws_ru : Nat) (world_born_ : Nat → Int32) (goings_lawsL_codeLength_ : Int32) (goings_lawsL_size_ : Int32) (goings_lawsL_take_ : Int32) (goings_lawsL_kinds_ : Nat → Int32) (goings_lawsL_to_ : Nat → Int32) (goings_lawsL_from_ : Nat → Int32) (goings_lawsL_code_ : Nat → Int32) (l1 : Int32) (l2 : Int32) (l3 : Int32) (size_ : Int32) (states_ : Nat → Int64) (table_ : Nat → Int32) (origins_ : Nat → Int32) (town_names_ : Nat → Int32) (town_sizes_ : Nat → Int32) (town_heaps_ : Nat → Nat → Int32) (goings_sums_values_ : Nat → Int32) (goings_sums_stack_ : Nat → Int32) : Option ((Int32 × Int32 × (Nat → Int64) × (Nat → Int32) × (Nat → Int32) × (Nat → Int32) × (Nat → Int32) × (Nat → Nat → Int32) × (Nat → Int32) × (Nat → Int32)) ⊕ ((Int32 × (Nat → Int64) × (Nat → Int32) × (Nat → Int32) × (Nat → Int32) × (Nat → Int32) × (Nat → Nat → Int32) × (Nat → Int32) × (Nat → Int32)) ⊕ (Int32 × (Nat → Int64) × (Nat → Int32) × (Nat → Int32) × (Nat → Int32) × (Nat → Int32) × (Nat → Nat → Int32) × (Nat → Int32) × (Nat → Int32)) ⊕ (Int32 × (Nat → Int64) × (Nat → Int32) × (Nat → Int32) × (Nat → Int32) × (Nat → Int32) × (Nat → Nat → Int32) × (Nat → Int32) × (Nat → Int32)))) :=
  if l3 < world_people_ then
    (itr (un10 (fb_srch_goOnFrom_29 world_people_ world_gates_ world_hour_ world_ruling_ wanted_ world_lot_ goings_laws_ru world_born_ goings_lawsL_codeLength_ goings_lawsL_size_ goings_lawsL_take_ goings_lawsL_kinds_ goings_lawsL_to_ goings_lawsL_from_ goings_lawsL_code_ l1 l2 l3)) KF (0, size_, states_, table_, origins_, town_names_, town_sizes_, town_heaps_, goings_sums_values_, goings_sums_stack_)).bind
      (Sum.elim
        (un9 fun size_28 states_29 table_30 origins_31 town_names_32 town_sizes_33 town_heaps_34 goings_sums_values_35 goings_sums_stack_36 =>
          some (.inr (.inl (size_28, states_29, table_30, origins_31, town_names_32, town_sizes_33, town_heaps_34, goings_sums_values_35, goings_sums_stack_36)))
        )
        (Sum.elim
          (un9 fun size_37 states_38 table_39 origins_40 town_names_41 town_sizes_42 town_heaps_43 goings_sums_values_44 goings_sums_stack_45 =>
            some (.inr (.inr (.inl (size_37, states_38, table_39, origins_40, town_names_41, town_sizes_42, town_heaps_43, goings_sums_values_44, goings_sums_stack_45))))
          )
          (un9 fun size_46 states_47 table_48 origins_49 town_names_50 town_sizes_51 town_heaps_52 goings_sums_values_53 goings_sums_stack_54 =>
            some (.inl (l3 + 1, size_46, states_47, table_48, origins_49, town_names_50, town_sizes_51, town_heaps_52, goings_sums_values_53, goings_sums_stack_54))
          )
        )
      )
  else
    some (.inr (.inr (.inr ((size_, states_, table_, origins_, town_names_, town_sizes_, town_heaps_, goings_sums_values_, goings_sums_stack_)))))
def f_srch_goOnFrom (size_ : Int32) (states_ : Nat → Int64) (world_people_ : Int32) (world_gates_ : Int32) (world_hour_ : Int32) (world_ruling_ : Int32) (table_ : Nat → Int32) (origins_ : Nat → Int32) (wanted_ : Nat → Int32) (town_names_ : Nat → Int32) (town_sizes_ : Nat → Int32) (town_heaps_ : Nat → Nat → Int32) (world_lot_ : Nat → Int32) (goings_laws_ru : Nat) (world_born_ : Nat → Int32) (goings_sums_values_ : Nat → Int32) (goings_lawsL_codeLength_ : Int32) (goings_lawsL_size_ : Int32) (goings_lawsL_take_ : Int32) (goings_sums_stack_ : Nat → Int32) (goings_lawsL_kinds_ : Nat → Int32) (goings_lawsL_to_ : Nat → Int32) (goings_lawsL_from_ : Nat → Int32) (goings_lawsL_code_ : Nat → Int32) (l1 : Int32) (l2 : Int32) : Option ((Int32 × Int32 × (Nat → Int64) × (Nat → Int32) × (Nat → Int32) × (Nat → Int32) × (Nat → Int32) × (Nat → Nat → Int32) × (Nat → Int32) × (Nat → Int32))) :=
  if inb l1 3000 then
    (f_town_unpack town_names_ town_sizes_ town_heaps_ (states_ (ix l1))).bind (un3 fun town_names_2 town_sizes_3 town_heaps_4 =>
    (itr (un10 (fb_srch_goOnFrom_15 world_people_ world_gates_ world_hour_ world_ruling_ wanted_ world_lot_ goings_laws_ru world_born_ goings_lawsL_codeLength_ goings_lawsL_size_ goings_lawsL_take_ goings_lawsL_kinds_ goings_lawsL_to_ goings_lawsL_from_ goings_lawsL_code_ l1 l2)) KF (0, size_, states_, table_, origins_, town_names_2, town_sizes_3, town_heaps_4, goings_sums_values_, goings_sums_stack_)).bind
      (Sum.elim
        (un9 fun size_55 states_56 table_57 origins_58 town_names_59 town_sizes_60 town_heaps_61 goings_sums_values_62 goings_sums_stack_63 =>
          some ((-2), size_55, states_56, table_57, origins_58, town_names_59, town_sizes_60, town_heaps_61, goings_sums_values_62, goings_sums_stack_63)
        )
        (Sum.elim
          (un9 fun size_64 states_65 table_66 origins_67 town_names_68 town_sizes_69 town_heaps_70 goings_sums_values_71 goings_sums_stack_72 =>
            some (size_64 - 1, size_64, states_65, table_66, origins_67, town_names_68, town_sizes_69, town_heaps_70, goings_sums_values_71, goings_sums_stack_72)
          )
          (un9 fun size_73 states_74 table_75 origins_76 town_names_77 town_sizes_78 town_heaps_79 goings_sums_values_80 goings_sums_stack_81 =>
            some ((-1), size_73, states_74, table_75, origins_76, town_names_77, town_sizes_78, town_heaps_79, goings_sums_values_80, goings_sums_stack_81)
          )
        )
      ))
  else none
def fb_srch_find_51 (world_people_ : Int32) (world_gates_ : Int32) (world_hour_ : Int32) (world_ruling_ : Int32) (wanted_ : Nat → Int32) (world_lot_ : Nat → Int32) (goings_laws_ru : Nat) (world_born_ : Nat → Int32) (goings_lawsL_codeLength_ : Int32) (goings_lawsL_size_ : Int32) (goings_lawsL_take_ : Int32) (goings_lawsL_kinds_ : Nat → Int32) (goings_lawsL_to_ : Nat → Int32) (goings_lawsL_from_ : Nat → Int32) (goings_lawsL_code_ : Nat → Int32) (l1 : Int32) (l2 : Int32) (size_ : Int32) (table_ : Nat → Int32) (states_ : Nat → Int64) (origins_ : Nat → Int32) (town_names_ : Nat → Int32) (town_sizes_ : Nat → Int32) (town_heaps_ : Nat → Nat → Int32) (goings_sums_values_ : Nat → Int32) (goings_sums_stack_ : Nat → Int32) : Option ((Int32 × Int32 × (Nat → Int32) × (Nat → Int64) × (Nat → Int32) × (Nat → Int32) × (Nat → Int32) × (Nat → Nat → Int32) × (Nat → Int32) × (Nat → Int32)) ⊕ ((Int32 × Int32 × (Nat → Int32) × (Nat → Int64) × (Nat → Int32) × (Nat → Int32) × (Nat → Int32) × (Nat → Nat → Int32) × (Nat → Int32) × (Nat → Int32)) ⊕ (Int32 × (Nat → Int32) × (Nat → Int64) × (Nat → Int32) × (Nat → Int32) × (Nat → Int32) × (Nat → Nat → Int32) × (Nat → Int32) × (Nat → Int32)))) :=
  if l2 < size_ then
    if l2 < 3000 then
      (f_srch_goOnFrom size_ states_ world_people_ world_gates_ world_hour_ world_ruling_ table_ origins_ wanted_ town_names_ town_sizes_ town_heaps_ world_lot_ goings_laws_ru world_born_ goings_sums_values_ goings_lawsL_codeLength_ goings_lawsL_size_ goings_lawsL_take_ goings_sums_stack_ goings_lawsL_kinds_ goings_lawsL_to_ goings_lawsL_from_ goings_lawsL_code_ l2 l1).bind (un10 fun r12 size_13 states_14 table_15 origins_16 town_names_17 town_sizes_18 town_heaps_19 goings_sums_values_20 goings_sums_stack_21 =>
      if r12 = (-1) then
        some (.inl (l2 + 1, size_13, table_15, states_14, origins_16, town_names_17, town_sizes_18, town_heaps_19, goings_sums_values_20, goings_sums_stack_21))
      else
        some (.inr (.inl (r12, size_13, table_15, states_14, origins_16, town_names_17, town_sizes_18, town_heaps_19, goings_sums_values_20, goings_sums_stack_21))))
    else
      some (.inr (.inr ((size_, table_, states_, origins_, town_names_, town_sizes_, town_heaps_, goings_sums_values_, goings_sums_stack_))))
  else
    some (.inr (.inr ((size_, table_, states_, origins_, town_names_, town_sizes_, town_heaps_, goings_sums_values_, goings_sums_stack_))))
def f_srch_find (size_ : Int32) (table_ : Nat → Int32) (world_people_ : Int32) (world_gates_ : Int32) (world_hour_ : Int32) (world_ruling_ : Int32) (states_ : Nat → Int64) (origins_ : Nat → Int32) (wanted_ : Nat → Int32) (town_names_ : Nat → Int32) (town_sizes_ : Nat → Int32) (town_heaps_ : Nat → Nat → Int32) (world_lot_ : Nat → Int32) (goings_laws_ru : Nat) (world_born_ : Nat → Int32) (world_town_names_ : Nat → Int32) (world_town_sizes_ : Nat → Int32) (world_town_heaps_ : Nat → Nat → Int32) (goings_sums_values_ : Nat → Int32) (goings_lawsL_codeLength_ : Int32) (goings_lawsL_size_ : Int32) (goings_lawsL_take_ : Int32) (goings_sums_stack_ : Nat → Int32) (goings_lawsL_kinds_ : Nat → Int32) (goings_lawsL_to_ : Nat → Int32) (goings_lawsL_from_ : Nat → Int32) (goings_lawsL_code_ : Nat → Int32) (l1 : Int32) : Option ((Int32 × Int32 × (Nat → Int32) × (Nat → Int64) × (Nat → Int32) × (Nat → Int32) × (Nat → Int32) × (Nat → Nat → Int32) × (Nat → Int32) × (Nat → Int32))) :=
  (f_arr_fill_II 4096 table_ 0).bind (fun table_1 =>
  (f_town_copyFrom town_names_ town_sizes_ town_heaps_ world_town_names_ world_town_sizes_ world_town_heaps_).bind (un3 fun town_names_2 town_sizes_3 town_heaps_4 =>
  (f_town_packed town_sizes_3 town_heaps_4 town_names_2).bind (fun r5 =>
  (f_srch_add 0 table_1 states_ origins_ r5 0).bind (un5 fun r6 size_7 table_8 states_9 origins_10 =>
  (f_srch_isAsWanted wanted_ town_names_2).bind (fun r11 =>
  if r11 = 0 then
    (itr (un10 (fb_srch_find_51 world_people_ world_gates_ world_hour_ world_ruling_ wanted_ world_lot_ goings_laws_ru world_born_ goings_lawsL_codeLength_ goings_lawsL_size_ goings_lawsL_take_ goings_lawsL_kinds_ goings_lawsL_to_ goings_lawsL_from_ goings_lawsL_code_ l1)) KF (0, size_7, table_8, states_9, origins_10, town_names_2, town_sizes_3, town_heaps_4, goings_sums_values_, goings_sums_stack_)).bind
      (Sum.elim
        (un10 fun l3_23 size_24 table_25 states_26 origins_27 town_names_28 town_sizes_29 town_heaps_30 goings_sums_values_31 goings_sums_stack_32 =>
          some (l3_23, size_24, table_25, states_26, origins_27, town_names_28, town_sizes_29, town_heaps_30, goings_sums_values_31, goings_sums_stack_32)
        )
        (un9 fun size_33 table_34 states_35 origins_36 town_names_37 town_sizes_38 town_heaps_39 goings_sums_values_40 goings_sums_stack_41 =>
          some ((-1), size_33, table_34, states_35, origins_36, town_names_37, town_sizes_38, town_heaps_39, goings_sums_values_40, goings_sums_stack_41)
        )
      )
  else
    some (0, size_7, table_8, states_9, origins_10, town_names_2, town_sizes_3, town_heaps_4, goings_sums_values_, goings_sums_stack_))))))
def fb_srch_lengthOf_4 (origins_ : Nat → Int32) (l2 : Int32) (l3 : Int32) : Option ((Int32 × Int32) ⊕ Int32) :=
  if 0 < l3 then
    if l3 < 3000 then
      if l2 < 3000 then
        if inb l3 3000 then
          some (.inl (l2 + 1, (origins_ (ix l3)) / 100))
        else none
      else
        some (.inr l2)
    else
      some (.inr l2)
  else
    some (.inr l2)
def f_srch_lengthOf (origins_ : Nat → Int32) (l1 : Int32) : Option (Int32) :=
  (itr (un2 (fb_srch_lengthOf_4 origins_)) KF (0, l1)).bind
    (fun l2_2 =>
      some l2_2
    )
def fb_srch_goingOf_37 (origins_ : Nat → Int32) (l3 : Int32) (l4 : Int32) (l5 : Int32) : Option ((Int32 × Int32) ⊕ Int32) :=
  if l5 < l3 then
    if inb l4 3000 then
      some (.inl ((origins_ (ix l4)) / 100, l5 + 1))
    else none
  else
    some (.inr l4)
def f_srch_goingOf (origins_ : Nat → Int32) (l1 : Int32) (l2 : Int32) : Option (Int32) :=
  (f_srch_lengthOf origins_ l1).bind (fun r1 =>
  if l2 < 0 then
    some (-1)
  else
    if ((r1 - 1) - l2) < 0 then
      some (-1)
    else
      if l1 < 0 then
        some (-1)
      else
        if l1 < 3000 then
          (itr (un2 (fb_srch_goingOf_37 origins_ ((r1 - 1) - l2))) KF (l1, 0)).bind
            (fun l4_3 =>
              if inb l4_3 3000 then
                some (rem32 (origins_ (ix l4_3)) 100)
              else none
            )
        else
          some (-1))
def f_x_fewest (now_people_ : Int32) (now_gates_ : Int32) (now_hour_ : Int32) (now_ruling_ : Int32) (search_size_ : Int32) (laws_ru : Nat) (search_wanted_ : Nat → Int32) (now_born_ : Nat → Int32) (search_table_ : Nat → Int32) (search_states_ : Nat → Int64) (search_origins_ : Nat → Int32) (now_lot_ : Nat → Int32) (lawsL_codeLength_ : Int32) (lawsL_size_ : Int32) (lawsL_take_ : Int32) (now_town_names_ : Nat → Int32) (search_town_names_ : Nat → Int32) (now_town_sizes_ : Nat → Int32) (search_town_sizes_ : Nat → Int32) (now_town_heaps_ : Nat → Nat → Int32) (search_town_heaps_ : Nat → Nat → Int32) (goings_sums_values_ : Nat → Int32) (lawsL_kinds_ : Nat → Int32) (lawsL_to_ : Nat → Int32) (lawsL_from_ : Nat → Int32) (goings_sums_stack_ : Nat → Int32) (lawsL_code_ : Nat → Int32) (l1 : Int32) (l2 : Int32) (l3 : Int32) (l4 : Int32) (l5 : Int32) : Option ((Int32 × Int32 × (Nat → Int32) × (Nat → Int32) × (Nat → Int64) × (Nat → Int32) × (Nat → Int32) × (Nat → Int32) × (Nat → Nat → Int32) × (Nat → Int32) × (Nat → Int32))) :=
  if l5 < (-1) then
    some ((-1), search_size_, search_wanted_, search_table_, search_states_, search_origins_, search_town_names_, search_town_sizes_, search_town_heaps_, goings_sums_values_, goings_sums_stack_)
  else
    if l4 < 0 then
      some ((-1), search_size_, search_wanted_, search_table_, search_states_, search_origins_, search_town_names_, search_town_sizes_, search_town_heaps_, goings_sums_values_, goings_sums_stack_)
    else
      if l4 < (1 <<< (now_people_ &&& 31)) then
        (f_x_setGoal now_people_ search_wanted_ now_born_ now_town_names_ l1 l2 l3).bind (un2 fun r1 search_wanted_2 =>
        if r1 = 0 then
          some ((-1), search_size_, search_wanted_2, search_table_, search_states_, search_origins_, search_town_names_, search_town_sizes_, search_town_heaps_, goings_sums_values_, goings_sums_stack_)
        else
          (f_srch_find search_size_ search_table_ now_people_ now_gates_ now_hour_ now_ruling_ search_states_ search_origins_ search_wanted_2 search_town_names_ search_town_sizes_ search_town_heaps_ now_lot_ laws_ru now_born_ now_town_names_ now_town_sizes_ now_town_heaps_ goings_sums_values_ lawsL_codeLength_ lawsL_size_ lawsL_take_ goings_sums_stack_ lawsL_kinds_ lawsL_to_ lawsL_from_ lawsL_code_ l4).bind (un10 fun r3 search_size_4 search_table_5 search_states_6 search_origins_7 search_town_names_8 search_town_sizes_9 search_town_heaps_10 goings_sums_values_11 goings_sums_stack_12 =>
          if r3 < 0 then
            some (r3, search_size_4, search_wanted_2, search_table_5, search_states_6, search_origins_7, search_town_names_8, search_town_sizes_9, search_town_heaps_10, goings_sums_values_11, goings_sums_stack_12)
          else
            if l5 = (-1) then
              (f_srch_lengthOf search_origins_7 r3).bind (fun r15 =>
              some (r15, search_size_4, search_wanted_2, search_table_5, search_states_6, search_origins_7, search_town_names_8, search_town_sizes_9, search_town_heaps_10, goings_sums_values_11, goings_sums_stack_12))
            else
              (f_srch_goingOf search_origins_7 r3 l5).bind (fun r13 =>
              some (r13, search_size_4, search_wanted_2, search_table_5, search_states_6, search_origins_7, search_town_names_8, search_town_sizes_9, search_town_heaps_10, goings_sums_values_11, goings_sums_stack_12))))
      else
        some ((-1), search_size_, search_wanted_, search_table_, search_states_, search_origins_, search_town_names_, search_town_sizes_, search_town_heaps_, goings_sums_values_, goings_sums_stack_)
def fb_x_third_14 (now_people_ : Int32) (now_gates_ : Int32) (now_hour_ : Int32) (now_ruling_ : Int32) (laws_ru : Nat) (search_wanted_ : Nat → Int32) (now_born_ : Nat → Int32) (now_lot_ : Nat → Int32) (lawsL_codeLength_ : Int32) (lawsL_size_ : Int32) (lawsL_take_ : Int32) (now_town_names_ : Nat → Int32) (now_town_sizes_ : Nat → Int32) (now_town_heaps_ : Nat → Nat → Int32) (lawsL_kinds_ : Nat → Int32) (lawsL_to_ : Nat → Int32) (lawsL_from_ : Nat → Int32) (lawsL_code_ : Nat → Int32) (l1 : Int32) (l2 : Int32) (l3 : Int32) (search_size_ : Int32) (search_table_ : Nat → Int32) (search_states_ : Nat → Int64) (search_origins_ : Nat → Int32) (search_town_names_ : Nat → Int32) (search_town_sizes_ : Nat → Int32) (search_town_heaps_ : Nat → Nat → Int32) (goings_sums_values_ : Nat → Int32) (goings_sums_stack_ : Nat → Int32) : Option ((Int32 × Int32 × (Nat → Int32) × (Nat → Int64) × (Nat → Int32) × (Nat → Int32) × (Nat → Int32) × (Nat → Nat → Int32) × (Nat → Int32) × (Nat → Int32)) ⊕ ((Int32 × Int32 × (Nat → Int32) × (Nat → Int64) × (Nat → Int32) × (Nat → Int32) × (Nat → Int32) × (Nat → Nat → Int32) × (Nat → Int32) × (Nat → Int32)) ⊕ (Int32 × (Nat → Int32) × (Nat → Int64) × (Nat → Int32) × (Nat → Int32) × (Nat → Int32) × (Nat → Nat → Int32) × (Nat → Int32) × (Nat → Int32)))) :=
  if l3 < now_people_ then
    if l3 = l1 then
      some (.inl (l3 + 1, search_size_, search_table_, search_states_, search_origins_, search_town_names_, search_town_sizes_, search_town_heaps_, goings_sums_values_, goings_sums_stack_))
    else
      if l3 = l2 then
        some (.inl (l3 + 1, search_size_, search_table_, search_states_, search_origins_, search_town_names_, search_town_sizes_, search_town_heaps_, goings_sums_values_, goings_sums_stack_))
      else
        (f_srch_find search_size_ search_table_ now_people_ now_gates_ now_hour_ now_ruling_ search_states_ search_origins_ search_wanted_ search_town_names_ search_town_sizes_ search_town_heaps_ now_lot_ laws_ru now_born_ now_town_names_ now_town_sizes_ now_town_heaps_ goings_sums_values_ lawsL_codeLength_ lawsL_size_ lawsL_take_ goings_sums_stack_ lawsL_kinds_ lawsL_to_ lawsL_from_ lawsL_code_ (((1 <<< (l1 &&& 31)) ||| (1 <<< (l2 &&& 31))) ||| (1 <<< (l3 &&& 31)))).bind (un10 fun r3 search_size_4 search_table_5 search_states_6 search_origins_7 search_town_names_8 search_town_sizes_9 search_town_heaps_10 goings_sums_values_11 goings_sums_stack_12 =>
        if r3 < 0 then
          some (.inl (l3 + 1, search_size_4, search_table_5, search_states_6, search_origins_7, search_town_names_8, search_town_sizes_9, search_town_heaps_10, goings_sums_values_11, goings_sums_stack_12))
        else
          some (.inr (.inl (l3, search_size_4, search_table_5, search_states_6, search_origins_7, search_town_names_8, search_town_sizes_9, search_town_heaps_10, goings_sums_values_11, goings_sums_stack_12))))
  else
    some (.inr (.inr ((search_size_, search_table_, search_states_, search_origins_, search_town_names_, search_town_sizes_, search_town_heaps_, goings_sums_values_, goings_sums_stack_))))
def f_x_third (search_size_ : Int32) (now_people_ : Int32) (now_gates_ : Int32) (now_hour_ : Int32) (now_ruling_ : Int32) (laws_ru : Nat) (search_wanted_ : Nat → Int32) (now_born_ : Nat → Int32) (search_table_ : Nat → Int32) (search_states_ : Nat → Int64) (search_origins_ : Nat → Int32) (now_lot_ : Nat → Int32) (lawsL_codeLength_ : Int32) (lawsL_size_ : Int32) (lawsL_take_ : Int32) (now_town_names_ : Nat → Int32) (search_town_names_ : Nat → Int32) (now_town_sizes_ : Nat → Int32) (search_town_sizes_ : Nat → Int32) (now_town_heaps_ : Nat → Nat → Int32) (search_town_heaps_ : Nat → Nat → Int32) (goings_sums_values_ : Nat → Int32) (lawsL_kinds_ : Nat → Int32) (lawsL_to_ : Nat → Int32) (lawsL_from_ : Nat → Int32) (goings_sums_stack_ : Nat → Int32) (lawsL_code_ : Nat → Int32) (l1 : Int32) (l2 : Int32) : Option ((Int32 × Int32 × (Nat → Int32) × (Nat → Int32) × (Nat → Int64) × (Nat → Int32) × (Nat → Int32) × (Nat → Int32) × (Nat → Nat → Int32) × (Nat → Int32) × (Nat → Int32))) :=
  (f_x_setGoal now_people_ search_wanted_ now_born_ now_town_names_ 1 l1 l2).bind (un2 fun r1 search_wanted_2 =>
  if r1 = 0 then
    some ((-1), search_size_, search_wanted_2, search_table_, search_states_, search_origins_, search_town_names_, search_town_sizes_, search_town_heaps_, goings_sums_values_, goings_sums_stack_)
  else
    (itr (un10 (fb_x_third_14 now_people_ now_gates_ now_hour_ now_ruling_ laws_ru search_wanted_2 now_born_ now_lot_ lawsL_codeLength_ lawsL_size_ lawsL_take_ now_town_names_ now_town_sizes_ now_town_heaps_ lawsL_kinds_ lawsL_to_ lawsL_from_ lawsL_code_ l1 l2)) KF (0, search_size_, search_table_, search_states_, search_origins_, search_town_names_, search_town_sizes_, search_town_heaps_, goings_sums_values_, goings_sums_stack_)).bind
      (Sum.elim
        (un10 fun l3_14 search_size_15 search_table_16 search_states_17 search_origins_18 search_town_names_19 search_town_sizes_20 search_town_heaps_21 goings_sums_values_22 goings_sums_stack_23 =>
          some (l3_14, search_size_15, search_wanted_2, search_table_16, search_states_17, search_origins_18, search_town_names_19, search_town_sizes_20, search_town_heaps_21, goings_sums_values_22, goings_sums_stack_23)
        )
        (un9 fun search_size_24 search_table_25 search_states_26 search_origins_27 search_town_names_28 search_town_sizes_29 search_town_heaps_30 goings_sums_values_31 goings_sums_stack_32 =>
          some ((-1), search_size_24, search_wanted_2, search_table_25, search_states_26, search_origins_27, search_town_names_28, search_town_sizes_29, search_town_heaps_30, goings_sums_values_31, goings_sums_stack_32)
        )
      ))
def fb_world_countInside_4 (people_ : Int32) (town_names_ : Nat → Int32) (l1 : Int32) (l2 : Int32) : Option ((Int32 × Int32) ⊕ Int32) :=
  if l2 < people_ then
    (f_world_isInside people_ town_names_ l2).bind (fun r1 =>
    if r1 = 0 then
      some (.inl (l1, l2 + 1))
    else
      some (.inl (l1 + 1, l2 + 1)))
  else
    some (.inr l1)
def f_world_countInside (people_ : Int32) (town_names_ : Nat → Int32) : Option (Int32) :=
  (itr (un2 (fb_world_countInside_4 people_ town_names_)) KF (0, 0)).bind
    (fun l1_3 =>
      some l1_3
    )
def fj_crw_countFrom_8 (F_crw_countFrom : Int32 → Int32 → Int32 → Int32 → Int32 → Int32 → Int32 → (Nat → Int32) → (Nat → Int32) → (Nat → Nat → Int32) → Nat → (Nat → Int32) → (Nat → Int32) → (Nat → Int32) → Int32 → Int32 → Int32 → (Nat → Int32) → (Nat → Int32) → (Nat → Int32) → (Nat → Int32) → (Nat → Int32) → Int32 → Int32 → Option ((Int32 × (Nat → Int32) × (Nat → Int32) × (Nat → Nat → Int32) × (Nat → Int32) × (Nat → Int32)))) (who_ : Int32) (name_ : Int32) (town_names_ : Nat → Int32) (town_sizes_ : Nat → Int32) (town_heaps_ : Nat → Nat → Int32) (goings_sums_values_ : Nat → Int32) (goings_sums_stack_ : Nat → Int32) : Option ((Int32 × (Nat → Int32) × (Nat → Int32) × (Nat → Nat → Int32) × (Nat → Int32) × (Nat → Int32))) :=
  (f_town_nameOf town_names_ who_).bind (fun r1 =>
  if r1 = name_ then
    some (1, town_names_, town_sizes_, town_heaps_, goings_sums_values_, goings_sums_stack_)
  else
    some (0, town_names_, town_sizes_, town_heaps_, goings_sums_values_, goings_sums_stack_))
def fb_crw_countFrom_46 (F_crw_countFrom : Int32 → Int32 → Int32 → Int32 → Int32 → Int32 → Int32 → (Nat → Int32) → (Nat → Int32) → (Nat → Nat → Int32) → Nat → (Nat → Int32) → (Nat → Int32) → (Nat → Int32) → Int32 → Int32 → Int32 → (Nat → Int32) → (Nat → Int32) → (Nat → Int32) → (Nat → Int32) → (Nat → Int32) → Int32 → Int32 → Option ((Int32 × (Nat → Int32) × (Nat → Int32) × (Nat → Nat → Int32) × (Nat → Int32) × (Nat → Int32)))) (gate_ : Int32) (who_ : Int32) (name_ : Int32) (world_people_ : Int32) (world_gates_ : Int32) (world_hour_ : Int32) (world_ruling_ : Int32) (goings_laws_ru : Nat) (world_lot_ : Nat → Int32) (world_born_ : Nat → Int32) (goings_lawsL_codeLength_ : Int32) (goings_lawsL_size_ : Int32) (goings_lawsL_take_ : Int32) (goings_lawsL_kinds_ : Nat → Int32) (goings_lawsL_to_ : Nat → Int32) (goings_lawsL_from_ : Nat → Int32) (goings_lawsL_code_ : Nat → Int32) (l1 : Int32) (l2 : Int32) (l3 : Int64) (l5 : Int32) (l6 : Int32) (town_names_ : Nat → Int32) (town_sizes_ : Nat → Int32) (town_heaps_ : Nat → Nat → Int32) (goings_sums_values_ : Nat → Int32) (goings_sums_stack_ : Nat → Int32) : Option ((Int32 × Int32 × (Nat → Int32) × (Nat → Int32) × (Nat → Nat → Int32) × (Nat → Int32) × (Nat → Int32)) ⊕ (Int32 × (Nat → Int32) × (Nat → Int32) × (Nat → Nat → Int32) × (Nat → Int32) × (Nat → Int32))) :=
  if l6 < world_people_ then
    if ((l1 >>> (l6 &&& 31)) &&& 1) = 1 then
      (f_go_doTried world_people_ world_gates_ world_hour_ world_ruling_ goings_laws_ru goings_sums_values_ goings_lawsL_codeLength_ goings_lawsL_size_ goings_lawsL_take_ goings_sums_stack_ world_lot_ world_born_ goings_lawsL_kinds_ goings_lawsL_to_ goings_lawsL_from_ goings_lawsL_code_ town_names_ town_sizes_ town_heaps_ l6 gate_).bind (un6 fun r4 goings_sums_values_5 goings_sums_stack_6 town_names_7 town_sizes_8 town_heaps_9 =>
      (F_crw_countFrom gate_ who_ name_ world_people_ world_gates_ world_hour_ world_ruling_ town_names_7 town_sizes_8 town_heaps_9 goings_laws_ru world_lot_ world_born_ goings_sums_values_5 goings_lawsL_codeLength_ goings_lawsL_size_ goings_lawsL_take_ goings_sums_stack_6 goings_lawsL_kinds_ goings_lawsL_to_ goings_lawsL_from_ goings_lawsL_code_ (l1 &&& ((1 <<< (l6 &&& 31)) ^^^ (-1))) (l2 - 1)).bind (un6 fun r10 town_names_11 town_sizes_12 town_heaps_13 goings_sums_values_14 goings_sums_stack_15 =>
      (f_town_unpack town_names_11 town_sizes_12 town_heaps_13 l3).bind (un3 fun town_names_16 town_sizes_17 town_heaps_18 =>
      some (.inl (l5 + r10, l6 + 1, town_names_16, town_sizes_17, town_heaps_18, goings_sums_values_14, goings_sums_stack_15)))))
    else
      some (.inl (l5, l6 + 1, town_names_, town_sizes_, town_heaps_, goings_sums_values_, goings_sums_stack_))
  else
    some (.inr (l5, town_names_, town_sizes_, town_heaps_, goings_sums_values_, goings_sums_stack_))
def fR_crw_countFrom (F_crw_countFrom : Int32 → Int32 → Int32 → Int32 → Int32 → Int32 → Int32 → (Nat → Int32) → (Nat → Int32) → (Nat → Nat → Int32) → Nat → (Nat → Int32) → (Nat → Int32) → (Nat → Int32) → Int32 → Int32 → Int32 → (Nat → Int32) → (Nat → Int32) → (Nat → Int32) → (Nat → Int32) → (Nat → Int32) → Int32 → Int32 → Option ((Int32 × (Nat → Int32) × (Nat → Int32) × (Nat → Nat → Int32) × (Nat → Int32) × (Nat → Int32)))) (gate_ : Int32) (who_ : Int32) (name_ : Int32) (world_people_ : Int32) (world_gates_ : Int32) (world_hour_ : Int32) (world_ruling_ : Int32) (town_names_ : Nat → Int32) (town_sizes_ : Nat → Int32) (town_heaps_ : Nat → Nat → Int32) (goings_laws_ru : Nat) (world_lot_ : Nat → Int32) (world_born_ : Nat → Int32) (goings_sums_values_ : Nat → Int32) (goings_lawsL_codeLength_ : Int32) (goings_lawsL_size_ : Int32) (goings_lawsL_take_ : Int32) (goings_sums_stack_ : Nat → Int32) (goings_lawsL_kinds_ : Nat → Int32) (goings_lawsL_to_ : Nat → Int32) (goings_lawsL_from_ : Nat → Int32) (goings_lawsL_code_ : Nat → Int32) (l1 : Int32) (l2 : Int32) : Option ((Int32 × (Nat → Int32) × (Nat → Int32) × (Nat → Nat → Int32) × (Nat → Int32) × (Nat → Int32))) :=
  if l1 = 0 then
    fj_crw_countFrom_8 F_crw_countFrom who_ name_ town_names_ town_sizes_ town_heaps_ goings_sums_values_ goings_sums_stack_
  else
    if 0 < l2 then
      (f_town_packed town_sizes_ town_heaps_ town_names_).bind (fun r3 =>
      (itr (un7 (fb_crw_countFrom_46 F_crw_countFrom gate_ who_ name_ world_people_ world_gates_ world_hour_ world_ruling_ goings_laws_ru world_lot_ world_born_ goings_lawsL_codeLength_ goings_lawsL_size_ goings_lawsL_take_ goings_lawsL_kinds_ goings_lawsL_to_ goings_lawsL_from_ goings_lawsL_code_ l1 l2 r3)) KF (0, 0, town_names_, town_sizes_, town_heaps_, goings_sums_values_, goings_sums_stack_)).bind
        (un6 fun l5_22 town_names_23 town_sizes_24 town_heaps_25 goings_sums_values_26 goings_sums_stack_27 =>
          some (l5_22, town_names_23, town_sizes_24, town_heaps_25, goings_sums_values_26, goings_sums_stack_27)
        ))
    else
      fj_crw_countFrom_8 F_crw_countFrom who_ name_ town_names_ town_sizes_ town_heaps_ goings_sums_values_ goings_sums_stack_
def FG_crw_countFrom : Nat → (Int32 → Int32 → Int32 → Int32 → Int32 → Int32 → Int32 → (Nat → Int32) → (Nat → Int32) → (Nat → Nat → Int32) → Nat → (Nat → Int32) → (Nat → Int32) → (Nat → Int32) → Int32 → Int32 → Int32 → (Nat → Int32) → (Nat → Int32) → (Nat → Int32) → (Nat → Int32) → (Nat → Int32) → Int32 → Int32 → Option ((Int32 × (Nat → Int32) × (Nat → Int32) × (Nat → Nat → Int32) × (Nat → Int32) × (Nat → Int32))))
  | 0 => (fun _ _ _ _ _ _ _ _ _ _ _ _ _ _ _ _ _ _ _ _ _ _ _ _ => none)
  | n + 1 => (fR_crw_countFrom (FG_crw_countFrom n))
def f_crw_countFrom (gate_ : Int32) (who_ : Int32) (name_ : Int32) (world_people_ : Int32) (world_gates_ : Int32) (world_hour_ : Int32) (world_ruling_ : Int32) (town_names_ : Nat → Int32) (town_sizes_ : Nat → Int32) (town_heaps_ : Nat → Nat → Int32) (goings_laws_ru : Nat) (world_lot_ : Nat → Int32) (world_born_ : Nat → Int32) (goings_sums_values_ : Nat → Int32) (goings_lawsL_codeLength_ : Int32) (goings_lawsL_size_ : Int32) (goings_lawsL_take_ : Int32) (goings_sums_stack_ : Nat → Int32) (goings_lawsL_kinds_ : Nat → Int32) (goings_lawsL_to_ : Nat → Int32) (goings_lawsL_from_ : Nat → Int32) (goings_lawsL_code_ : Nat → Int32) (l1 : Int32) (l2 : Int32) : Option ((Int32 × (Nat → Int32) × (Nat → Int32) × (Nat → Nat → Int32) × (Nat → Int32) × (Nat → Int32))) := (FG_crw_countFrom 9) gate_ who_ name_ world_people_ world_gates_ world_hour_ world_ruling_ town_names_ town_sizes_ town_heaps_ goings_laws_ru world_lot_ world_born_ goings_sums_values_ goings_lawsL_codeLength_ goings_lawsL_size_ goings_lawsL_take_ goings_sums_stack_ goings_lawsL_kinds_ goings_lawsL_to_ goings_lawsL_from_ goings_lawsL_code_ l1 l2
def fb_crw_countOrders_35 (world_people_ : Int32) (world_town_names_ : Nat → Int32) (l4 : Int32) (l5 : Int32) : Option ((Int32 × Int32) ⊕ Int32) :=
  if l5 < world_people_ then
    (f_world_isInside world_people_ world_town_names_ l5).bind (fun r4 =>
    if r4 = 0 then
      some (.inl (l4 ||| (1 <<< (l5 &&& 31)), l5 + 1))
    else
      some (.inl (l4, l5 + 1)))
  else
    some (.inr l4)
def f_crw_countOrders (gate_ : Int32) (who_ : Int32) (name_ : Int32) (world_people_ : Int32) (world_gates_ : Int32) (world_hour_ : Int32) (world_ruling_ : Int32) (town_names_ : Nat → Int32) (town_sizes_ : Nat → Int32) (town_heaps_ : Nat → Nat → Int32) (goings_laws_ru : Nat) (world_lot_ : Nat → Int32) (world_born_ : Nat → Int32) (world_town_names_ : Nat → Int32) (world_town_sizes_ : Nat → Int32) (world_town_heaps_ : Nat → Nat → Int32) (goings_sums_values_ : Nat → Int32) (goings_lawsL_codeLength_ : Int32) (goings_lawsL_size_ : Int32) (goings_lawsL_take_ : Int32) (goings_sums_stack_ : Nat → Int32) (goings_lawsL_kinds_ : Nat → Int32) (goings_lawsL_to_ : Nat → Int32) (goings_lawsL_from_ : Nat → Int32) (goings_lawsL_code_ : Nat → Int32) (l1 : Int32) (l2 : Int32) (l3 : Int32) : Option ((Int32 × Int32 × Int32 × Int32 × (Nat → Int32) × (Nat → Int32) × (Nat → Nat → Int32) × (Nat → Int32) × (Nat → Int32))) :=
  (f_town_copyFrom town_names_ town_sizes_ town_heaps_ world_town_names_ world_town_sizes_ world_town_heaps_).bind (un3 fun town_names_1 town_sizes_2 town_heaps_3 =>
  (itr (un2 (fb_crw_countOrders_35 world_people_ world_town_names_)) KF (0, 0)).bind
    (fun l4_6 =>
      (f_crw_countFrom l1 l2 l3 world_people_ world_gates_ world_hour_ world_ruling_ town_names_1 town_sizes_2 town_heaps_3 goings_laws_ru world_lot_ world_born_ goings_sums_values_ goings_lawsL_codeLength_ goings_lawsL_size_ goings_lawsL_take_ goings_sums_stack_ goings_lawsL_kinds_ goings_lawsL_to_ goings_lawsL_from_ goings_lawsL_code_ l4_6 6).bind (un6 fun r7 town_names_8 town_sizes_9 town_heaps_10 goings_sums_values_11 goings_sums_stack_12 =>
      some (r7, l1, l2, l3, town_names_8, town_sizes_9, town_heaps_10, goings_sums_values_11, goings_sums_stack_12))
    ))
def f_x_left (now_people_ : Int32) (now_gates_ : Int32) (now_hour_ : Int32) (now_ruling_ : Int32) (crowd_gate_ : Int32) (crowd_who_ : Int32) (crowd_name_ : Int32) (laws_ru : Nat) (now_lot_ : Nat → Int32) (lawsL_codeLength_ : Int32) (lawsL_size_ : Int32) (lawsL_take_ : Int32) (now_born_ : Nat → Int32) (now_town_names_ : Nat → Int32) (crowd_town_names_ : Nat → Int32) (now_town_sizes_ : Nat → Int32) (crowd_town_sizes_ : Nat → Int32) (now_town_heaps_ : Nat → Nat → Int32) (crowd_town_heaps_ : Nat → Nat → Int32) (goings_sums_values_ : Nat → Int32) (lawsL_kinds_ : Nat → Int32) (lawsL_to_ : Nat → Int32) (lawsL_from_ : Nat → Int32) (goings_sums_stack_ : Nat → Int32) (lawsL_code_ : Nat → Int32) (l1 : Int32) (l2 : Int32) (l3 : Int32) : Option ((Int32 × Int32 × Int32 × Int32 × (Nat → Int32) × (Nat → Int32) × (Nat → Nat → Int32) × (Nat → Int32) × (Nat → Int32))) :=
  (f_world_hasGate now_gates_ l1).bind (fun r1 =>
  if r1 = 0 then
    some ((-1), crowd_gate_, crowd_who_, crowd_name_, crowd_town_names_, crowd_town_sizes_, crowd_town_heaps_, goings_sums_values_, goings_sums_stack_)
  else
    if inb l1 3 then
      if (now_lot_ (ix l1)) = 0 then
        (f_world_hasPerson now_people_ l2).bind (fun r3 =>
        if r3 = 0 then
          some ((-1), crowd_gate_, crowd_who_, crowd_name_, crowd_town_names_, crowd_town_sizes_, crowd_town_heaps_, goings_sums_values_, goings_sums_stack_)
        else
          (f_x_isNameOrNone l3).bind (fun r4 =>
          if r4 = 0 then
            some ((-1), crowd_gate_, crowd_who_, crowd_name_, crowd_town_names_, crowd_town_sizes_, crowd_town_heaps_, goings_sums_values_, goings_sums_stack_)
          else
            (f_world_countInside now_people_ now_town_names_).bind (fun r5 =>
            if 6 < (now_people_ - r5) then
              some ((-1), crowd_gate_, crowd_who_, crowd_name_, crowd_town_names_, crowd_town_sizes_, crowd_town_heaps_, goings_sums_values_, goings_sums_stack_)
            else
              (f_crw_countOrders crowd_gate_ crowd_who_ crowd_name_ now_people_ now_gates_ now_hour_ now_ruling_ crowd_town_names_ crowd_town_sizes_ crowd_town_heaps_ laws_ru now_lot_ now_born_ now_town_names_ now_town_sizes_ now_town_heaps_ goings_sums_values_ lawsL_codeLength_ lawsL_size_ lawsL_take_ goings_sums_stack_ lawsL_kinds_ lawsL_to_ lawsL_from_ lawsL_code_ l1 l2 l3).bind (un9 fun r6 crowd_gate_7 crowd_who_8 crowd_name_9 crowd_town_names_10 crowd_town_sizes_11 crowd_town_heaps_12 goings_sums_values_13 goings_sums_stack_14 =>
              some (r6, crowd_gate_7, crowd_who_8, crowd_name_9, crowd_town_names_10, crowd_town_sizes_11, crowd_town_heaps_12, goings_sums_values_13, goings_sums_stack_14)))))
      else
        some ((-1), crowd_gate_, crowd_who_, crowd_name_, crowd_town_names_, crowd_town_sizes_, crowd_town_heaps_, goings_sums_values_, goings_sums_stack_)
    else none)
def fj_crw_lesser_10 (l0 : Int32) (l1 : Int32) : Option (Int32) :=
  (f_math_max_II l0 l1).bind (fun r1 =>
  some r1)
def f_crw_lesser (l0 : Int32) (l1 : Int32) : Option (Int32) :=
  if l0 = (-1) then
    fj_crw_lesser_10 l0 l1
  else
    if l1 = (-1) then
      fj_crw_lesser_10 l0 l1
    else
      (f_math_min_II l0 l1).bind (fun r3 =>
      some r3)
def fb_crw_leastFrom_47 (F_crw_leastFrom : Int32 → Int32 → Int32 → Int32 → (Nat → Int32) → Int32 → (Nat → Int32) → (Nat → Nat → Int32) → (Nat → Int32) → Nat → (Nat → Int32) → (Nat → Int32) → (Nat → Int32) → Int32 → Int32 → Int32 → (Nat → Int32) → (Nat → Int32) → (Nat → Int32) → (Nat → Int32) → (Nat → Int32) → Int32 → Int32 → Option ((Int32 × (Nat → Int32) × (Nat → Int32) × (Nat → Nat → Int32) × (Nat → Int32) × (Nat → Int32)))) (world_people_ : Int32) (world_gates_ : Int32) (world_hour_ : Int32) (world_ruling_ : Int32) (world_deeds_size_ : Int32) (world_lot_ : Nat → Int32) (goings_laws_ru : Nat) (world_born_ : Nat → Int32) (world_deeds_cells_ : Nat → Int32) (goings_lawsL_codeLength_ : Int32) (goings_lawsL_size_ : Int32) (goings_lawsL_take_ : Int32) (goings_lawsL_kinds_ : Nat → Int32) (goings_lawsL_to_ : Nat → Int32) (goings_lawsL_from_ : Nat → Int32) (goings_lawsL_code_ : Nat → Int32) (l1 : Int32) (l2 : Int32) (l5 : Int64) (l4 : Int32) (l7 : Int32) (town_names_ : Nat → Int32) (town_sizes_ : Nat → Int32) (town_heaps_ : Nat → Nat → Int32) (goings_sums_values_ : Nat → Int32) (goings_sums_stack_ : Nat → Int32) : Option ((Int32 × Int32 × (Nat → Int32) × (Nat → Int32) × (Nat → Nat → Int32) × (Nat → Int32) × (Nat → Int32)) ⊕ (Int32 × (Nat → Int32) × (Nat → Int32) × (Nat → Nat → Int32) × (Nat → Int32) × (Nat → Int32))) :=
  if l7 < world_gates_ then
    if inb l7 3 then
      if (world_lot_ (ix l7)) = 0 then
        (f_go_doTried world_people_ world_gates_ world_hour_ world_ruling_ goings_laws_ru goings_sums_values_ goings_lawsL_codeLength_ goings_lawsL_size_ goings_lawsL_take_ goings_sums_stack_ world_lot_ world_born_ goings_lawsL_kinds_ goings_lawsL_to_ goings_lawsL_from_ goings_lawsL_code_ town_names_ town_sizes_ town_heaps_ l1 l7).bind (un6 fun r5 goings_sums_values_6 goings_sums_stack_7 town_names_8 town_sizes_9 town_heaps_10 =>
        if r5 = (-1) then
          some (.inl (l4, l7 + 1, town_names_8, town_sizes_9, town_heaps_10, goings_sums_values_6, goings_sums_stack_7))
        else
          (F_crw_leastFrom world_people_ world_gates_ world_hour_ world_ruling_ town_names_8 world_deeds_size_ town_sizes_9 town_heaps_10 world_lot_ goings_laws_ru world_born_ world_deeds_cells_ goings_sums_values_6 goings_lawsL_codeLength_ goings_lawsL_size_ goings_lawsL_take_ goings_sums_stack_7 goings_lawsL_kinds_ goings_lawsL_to_ goings_lawsL_from_ goings_lawsL_code_ l1 (l2 - 1)).bind (un6 fun r11 town_names_12 town_sizes_13 town_heaps_14 goings_sums_values_15 goings_sums_stack_16 =>
          (f_crw_lesser l4 r11).bind (fun r17 =>
          (f_town_unpack town_names_12 town_sizes_13 town_heaps_14 l5).bind (un3 fun town_names_18 town_sizes_19 town_heaps_20 =>
          some (.inl (r17, l7 + 1, town_names_18, town_sizes_19, town_heaps_20, goings_sums_values_15, goings_sums_stack_16))))))
      else
        some (.inl (l4, l7 + 1, town_names_, town_sizes_, town_heaps_, goings_sums_values_, goings_sums_stack_))
    else none
  else
    some (.inr (l4, town_names_, town_sizes_, town_heaps_, goings_sums_values_, goings_sums_stack_))
def fj_crw_leastFrom_26 (F_crw_leastFrom : Int32 → Int32 → Int32 → Int32 → (Nat → Int32) → Int32 → (Nat → Int32) → (Nat → Nat → Int32) → (Nat → Int32) → Nat → (Nat → Int32) → (Nat → Int32) → (Nat → Int32) → Int32 → Int32 → Int32 → (Nat → Int32) → (Nat → Int32) → (Nat → Int32) → (Nat → Int32) → (Nat → Int32) → Int32 → Int32 → Option ((Int32 × (Nat → Int32) × (Nat → Int32) × (Nat → Nat → Int32) × (Nat → Int32) × (Nat → Int32)))) (world_people_ : Int32) (world_gates_ : Int32) (world_hour_ : Int32) (world_ruling_ : Int32) (town_names_ : Nat → Int32) (world_deeds_size_ : Int32) (town_sizes_ : Nat → Int32) (town_heaps_ : Nat → Nat → Int32) (world_lot_ : Nat → Int32) (goings_laws_ru : Nat) (world_born_ : Nat → Int32) (world_deeds_cells_ : Nat → Int32) (goings_sums_values_ : Nat → Int32) (goings_lawsL_codeLength_ : Int32) (goings_lawsL_size_ : Int32) (goings_lawsL_take_ : Int32) (goings_sums_stack_ : Nat → Int32) (goings_lawsL_kinds_ : Nat → Int32) (goings_lawsL_to_ : Nat → Int32) (goings_lawsL_from_ : Nat → Int32) (goings_lawsL_code_ : Nat → Int32) (l1 : Int32) (l2 : Int32) (s0 : Int32) : Option ((Int32 × (Nat → Int32) × (Nat → Int32) × (Nat → Nat → Int32) × (Nat → Int32) × (Nat → Int32))) :=
  if 0 < l2 then
    (f_town_packed town_sizes_ town_heaps_ town_names_).bind (fun r3 =>
    (itr (un7 (fb_crw_leastFrom_47 F_crw_leastFrom world_people_ world_gates_ world_hour_ world_ruling_ world_deeds_size_ world_lot_ goings_laws_ru world_born_ world_deeds_cells_ goings_lawsL_codeLength_ goings_lawsL_size_ goings_lawsL_take_ goings_lawsL_kinds_ goings_lawsL_to_ goings_lawsL_from_ goings_lawsL_code_ l1 l2 r3)) KF (s0, 0, town_names_, town_sizes_, town_heaps_, goings_sums_values_, goings_sums_stack_)).bind
      (un6 fun l4_25 town_names_26 town_sizes_27 town_heaps_28 goings_sums_values_29 goings_sums_stack_30 =>
        some (l4_25, town_names_26, town_sizes_27, town_heaps_28, goings_sums_values_29, goings_sums_stack_30)
      ))
  else
    some (s0, town_names_, town_sizes_, town_heaps_, goings_sums_values_, goings_sums_stack_)
def fR_crw_leastFrom (F_crw_leastFrom : Int32 → Int32 → Int32 → Int32 → (Nat → Int32) → Int32 → (Nat → Int32) → (Nat → Nat → Int32) → (Nat → Int32) → Nat → (Nat → Int32) → (Nat → Int32) → (Nat → Int32) → Int32 → Int32 → Int32 → (Nat → Int32) → (Nat → Int32) → (Nat → Int32) → (Nat → Int32) → (Nat → Int32) → Int32 → Int32 → Option ((Int32 × (Nat → Int32) × (Nat → Int32) × (Nat → Nat → Int32) × (Nat → Int32) × (Nat → Int32)))) (world_people_ : Int32) (world_gates_ : Int32) (world_hour_ : Int32) (world_ruling_ : Int32) (town_names_ : Nat → Int32) (world_deeds_size_ : Int32) (town_sizes_ : Nat → Int32) (town_heaps_ : Nat → Nat → Int32) (world_lot_ : Nat → Int32) (goings_laws_ru : Nat) (world_born_ : Nat → Int32) (world_deeds_cells_ : Nat → Int32) (goings_sums_values_ : Nat → Int32) (goings_lawsL_codeLength_ : Int32) (goings_lawsL_size_ : Int32) (goings_lawsL_take_ : Int32) (goings_sums_stack_ : Nat → Int32) (goings_lawsL_kinds_ : Nat → Int32) (goings_lawsL_to_ : Nat → Int32) (goings_lawsL_from_ : Nat → Int32) (goings_lawsL_code_ : Nat → Int32) (l1 : Int32) (l2 : Int32) : Option ((Int32 × (Nat → Int32) × (Nat → Int32) × (Nat → Nat → Int32) × (Nat → Int32) × (Nat → Int32))) :=
  (f_town_nameOf town_names_ l1).bind (fun r1 =>
  if r1 = (-1) then
    fj_crw_leastFrom_26 F_crw_leastFrom world_people_ world_gates_ world_hour_ world_ruling_ town_names_ world_deeds_size_ town_sizes_ town_heaps_ world_lot_ goings_laws_ru world_born_ world_deeds_cells_ goings_sums_values_ goings_lawsL_codeLength_ goings_lawsL_size_ goings_lawsL_take_ goings_sums_stack_ goings_lawsL_kinds_ goings_lawsL_to_ goings_lawsL_from_ goings_lawsL_code_ l1 l2 (-1)
  else
    (f_world_owedUnder world_deeds_size_ world_deeds_cells_ r1).bind (fun r2 =>
    fj_crw_leastFrom_26 F_crw_leastFrom world_people_ world_gates_ world_hour_ world_ruling_ town_names_ world_deeds_size_ town_sizes_ town_heaps_ world_lot_ goings_laws_ru world_born_ world_deeds_cells_ goings_sums_values_ goings_lawsL_codeLength_ goings_lawsL_size_ goings_lawsL_take_ goings_sums_stack_ goings_lawsL_kinds_ goings_lawsL_to_ goings_lawsL_from_ goings_lawsL_code_ l1 l2 r2))
def FG_crw_leastFrom : Nat → (Int32 → Int32 → Int32 → Int32 → (Nat → Int32) → Int32 → (Nat → Int32) → (Nat → Nat → Int32) → (Nat → Int32) → Nat → (Nat → Int32) → (Nat → Int32) → (Nat → Int32) → Int32 → Int32 → Int32 → (Nat → Int32) → (Nat → Int32) → (Nat → Int32) → (Nat → Int32) → (Nat → Int32) → Int32 → Int32 → Option ((Int32 × (Nat → Int32) × (Nat → Int32) × (Nat → Nat → Int32) × (Nat → Int32) × (Nat → Int32))))
  | 0 => (fun _ _ _ _ _ _ _ _ _ _ _ _ _ _ _ _ _ _ _ _ _ _ _ => none)
  | n + 1 => (fR_crw_leastFrom (FG_crw_leastFrom n))
def f_crw_leastFrom (world_people_ : Int32) (world_gates_ : Int32) (world_hour_ : Int32) (world_ruling_ : Int32) (town_names_ : Nat → Int32) (world_deeds_size_ : Int32) (town_sizes_ : Nat → Int32) (town_heaps_ : Nat → Nat → Int32) (world_lot_ : Nat → Int32) (goings_laws_ru : Nat) (world_born_ : Nat → Int32) (world_deeds_cells_ : Nat → Int32) (goings_sums_values_ : Nat → Int32) (goings_lawsL_codeLength_ : Int32) (goings_lawsL_size_ : Int32) (goings_lawsL_take_ : Int32) (goings_sums_stack_ : Nat → Int32) (goings_lawsL_kinds_ : Nat → Int32) (goings_lawsL_to_ : Nat → Int32) (goings_lawsL_from_ : Nat → Int32) (goings_lawsL_code_ : Nat → Int32) (l1 : Int32) (l2 : Int32) : Option ((Int32 × (Nat → Int32) × (Nat → Int32) × (Nat → Nat → Int32) × (Nat → Int32) × (Nat → Int32))) := (FG_crw_leastFrom 7) world_people_ world_gates_ world_hour_ world_ruling_ town_names_ world_deeds_size_ town_sizes_ town_heaps_ world_lot_ goings_laws_ru world_born_ world_deeds_cells_ goings_sums_values_ goings_lawsL_codeLength_ goings_lawsL_size_ goings_lawsL_take_ goings_sums_stack_ goings_lawsL_kinds_ goings_lawsL_to_ goings_lawsL_from_ goings_lawsL_code_ l1 l2
def f_crw_leastOwed (world_people_ : Int32) (world_gates_ : Int32) (world_hour_ : Int32) (world_ruling_ : Int32) (town_names_ : Nat → Int32) (town_sizes_ : Nat → Int32) (town_heaps_ : Nat → Nat → Int32) (world_deeds_size_ : Int32) (world_lot_ : Nat → Int32) (goings_laws_ru : Nat) (world_born_ : Nat → Int32) (world_town_names_ : Nat → Int32) (world_town_sizes_ : Nat → Int32) (world_town_heaps_ : Nat → Nat → Int32) (world_deeds_cells_ : Nat → Int32) (goings_sums_values_ : Nat → Int32) (goings_lawsL_codeLength_ : Int32) (goings_lawsL_size_ : Int32) (goings_lawsL_take_ : Int32) (goings_sums_stack_ : Nat → Int32) (goings_lawsL_kinds_ : Nat → Int32) (goings_lawsL_to_ : Nat → Int32) (goings_lawsL_from_ : Nat → Int32) (goings_lawsL_code_ : Nat → Int32) (l1 : Int32) (l2 : Int32) : Option ((Int32 × (Nat → Int32) × (Nat → Int32) × (Nat → Nat → Int32) × (Nat → Int32) × (Nat → Int32))) :=
  (f_town_copyFrom town_names_ town_sizes_ town_heaps_ world_town_names_ world_town_sizes_ world_town_heaps_).bind (un3 fun town_names_1 town_sizes_2 town_heaps_3 =>
  (f_crw_leastFrom world_people_ world_gates_ world_hour_ world_ruling_ town_names_1 world_deeds_size_ town_sizes_2 town_heaps_3 world_lot_ goings_laws_ru world_born_ world_deeds_cells_ goings_sums_values_ goings_lawsL_codeLength_ goings_lawsL_size_ goings_lawsL_take_ goings_sums_stack_ goings_lawsL_kinds_ goings_lawsL_to_ goings_lawsL_from_ goings_lawsL_code_ l1 l2).bind (un6 fun r4 town_names_5 town_sizes_6 town_heaps_7 goings_sums_values_8 goings_sums_stack_9 =>
  some (r4, town_names_5, town_sizes_6, town_heaps_7, goings_sums_values_8, goings_sums_stack_9)))
def f_x_thief (now_people_ : Int32) (now_gates_ : Int32) (now_hour_ : Int32) (now_ruling_ : Int32) (laws_ru : Nat) (now_deeds_size_ : Int32) (now_lot_ : Nat → Int32) (lawsL_codeLength_ : Int32) (lawsL_size_ : Int32) (lawsL_take_ : Int32) (now_born_ : Nat → Int32) (now_town_names_ : Nat → Int32) (crowd_town_names_ : Nat → Int32) (now_town_sizes_ : Nat → Int32) (crowd_town_sizes_ : Nat → Int32) (now_town_heaps_ : Nat → Nat → Int32) (crowd_town_heaps_ : Nat → Nat → Int32) (now_deeds_cells_ : Nat → Int32) (goings_sums_values_ : Nat → Int32) (lawsL_kinds_ : Nat → Int32) (lawsL_to_ : Nat → Int32) (lawsL_from_ : Nat → Int32) (goings_sums_stack_ : Nat → Int32) (lawsL_code_ : Nat → Int32) (l1 : Int32) (l2 : Int32) : Option ((Int32 × (Nat → Int32) × (Nat → Int32) × (Nat → Nat → Int32) × (Nat → Int32) × (Nat → Int32))) :=
  (f_world_hasPerson now_people_ l1).bind (fun r1 =>
  if r1 = 0 then
    some ((-1), crowd_town_names_, crowd_town_sizes_, crowd_town_heaps_, goings_sums_values_, goings_sums_stack_)
  else
    if l2 < 0 then
      some ((-1), crowd_town_names_, crowd_town_sizes_, crowd_town_heaps_, goings_sums_values_, goings_sums_stack_)
    else
      if 4 < l2 then
        some ((-1), crowd_town_names_, crowd_town_sizes_, crowd_town_heaps_, goings_sums_values_, goings_sums_stack_)
      else
        (f_crw_leastOwed now_people_ now_gates_ now_hour_ now_ruling_ crowd_town_names_ crowd_town_sizes_ crowd_town_heaps_ now_deeds_size_ now_lot_ laws_ru now_born_ now_town_names_ now_town_sizes_ now_town_heaps_ now_deeds_cells_ goings_sums_values_ lawsL_codeLength_ lawsL_size_ lawsL_take_ goings_sums_stack_ lawsL_kinds_ lawsL_to_ lawsL_from_ lawsL_code_ l1 l2).bind (un6 fun r2 crowd_town_names_3 crowd_town_sizes_4 crowd_town_heaps_5 goings_sums_values_6 goings_sums_stack_7 =>
        some (r2, crowd_town_names_3, crowd_town_sizes_4, crowd_town_heaps_5, goings_sums_values_6, goings_sums_stack_7)))
def f_world_sow (x_ : Int32) (l1 : Int32) : Option (Int32) :=
  some ((l1 * 11) + 5)
def f_x_seed (now_x_ : Int32) (l1 : Int32) : Option ((Int32 × Int32)) :=
  if l1 < 0 then
    some (0, now_x_)
  else
    if 9999 < l1 then
      some (0, now_x_)
    else
      (f_world_sow now_x_ l1).bind (fun now_x_1 =>
      some (1, now_x_1))
def fb_x_days_37 (now_people_ : Int32) (now_gates_ : Int32) (now_hour_ : Int32) (now_ruling_ : Int32) (laws_ru : Nat) (lawsL_codeLength_ : Int32) (lawsL_size_ : Int32) (lawsL_take_ : Int32) (lawsL_fee_ : Int32) (now_lot_ : Nat → Int32) (now_born_ : Nat → Int32) (lawsL_kinds_ : Nat → Int32) (lawsL_to_ : Nat → Int32) (lawsL_from_ : Nat → Int32) (lawsL_code_ : Nat → Int32) (l1 : Int32) (l2 : Int32) (l3 : Int32) (now_x_ : Int32) (now_paid_ : Nat → Int32) (now_done_ : Nat → Int32) (now_town_names_ : Nat → Int32) (goings_sums_values_ : Nat → Int32) (now_town_sizes_ : Nat → Int32) (goings_sums_stack_ : Nat → Int32) (now_town_heaps_ : Nat → Nat → Int32) : Option ((Int32 × Int32 × Int32 × (Nat → Int32) × (Nat → Int32) × (Nat → Int32) × (Nat → Int32) × (Nat → Int32) × (Nat → Int32) × (Nat → Nat → Int32)) ⊕ (Int32 × Int32 × (Nat → Int32) × (Nat → Int32) × (Nat → Int32) × (Nat → Int32) × (Nat → Int32) × (Nat → Int32) × (Nat → Nat → Int32))) :=
  if l3 < l1 then
    (f_world_draw now_x_ now_people_).bind (un2 fun r1 now_x_2 =>
    (f_world_draw now_x_2 now_gates_).bind (un2 fun r3 now_x_4 =>
    (f_go_doNow now_people_ now_gates_ now_hour_ now_ruling_ now_x_4 laws_ru goings_sums_values_ lawsL_codeLength_ lawsL_size_ lawsL_take_ lawsL_fee_ goings_sums_stack_ now_paid_ now_done_ now_lot_ now_born_ now_town_names_ now_town_sizes_ lawsL_kinds_ lawsL_to_ lawsL_from_ lawsL_code_ now_town_heaps_ r1 r3).bind (un9 fun r5 now_x_6 goings_sums_values_7 goings_sums_stack_8 now_paid_9 now_done_10 now_town_names_11 now_town_sizes_12 now_town_heaps_13 =>
    if r5 = (-1) then
      some (.inl (l2, l3 + 1, now_x_6, now_paid_9, now_done_10, now_town_names_11, goings_sums_values_7, now_town_sizes_12, goings_sums_stack_8, now_town_heaps_13))
    else
      some (.inl (l2 + 1, l3 + 1, now_x_6, now_paid_9, now_done_10, now_town_names_11, goings_sums_values_7, now_town_sizes_12, goings_sums_stack_8, now_town_heaps_13)))))
  else
    some (.inr (l2, now_x_, now_paid_, now_done_, now_town_names_, goings_sums_values_, now_town_sizes_, goings_sums_stack_, now_town_heaps_))
def f_x_days (now_people_ : Int32) (now_gates_ : Int32) (now_hour_ : Int32) (now_ruling_ : Int32) (now_x_ : Int32) (laws_ru : Nat) (lawsL_codeLength_ : Int32) (lawsL_size_ : Int32) (lawsL_take_ : Int32) (lawsL_fee_ : Int32) (now_paid_ : Nat → Int32) (now_done_ : Nat → Int32) (now_lot_ : Nat → Int32) (now_born_ : Nat → Int32) (now_town_names_ : Nat → Int32) (goings_sums_values_ : Nat → Int32) (now_town_sizes_ : Nat → Int32) (lawsL_kinds_ : Nat → Int32) (lawsL_to_ : Nat → Int32) (lawsL_from_ : Nat → Int32) (goings_sums_stack_ : Nat → Int32) (lawsL_code_ : Nat → Int32) (now_town_heaps_ : Nat → Nat → Int32) (l1 : Int32) : Option ((Int32 × Int32 × (Nat → Int32) × (Nat → Int32) × (Nat → Int32) × (Nat → Int32) × (Nat → Int32) × (Nat → Int32) × (Nat → Nat → Int32))) :=
  if l1 < 1 then
    some ((-1), now_x_, now_paid_, now_done_, now_town_names_, goings_sums_values_, now_town_sizes_, goings_sums_stack_, now_town_heaps_)
  else
    if 100 < l1 then
      some ((-1), now_x_, now_paid_, now_done_, now_town_names_, goings_sums_values_, now_town_sizes_, goings_sums_stack_, now_town_heaps_)
    else
      if now_people_ = 0 then
        some ((-1), now_x_, now_paid_, now_done_, now_town_names_, goings_sums_values_, now_town_sizes_, goings_sums_stack_, now_town_heaps_)
      else
        if now_gates_ = 0 then
          some ((-1), now_x_, now_paid_, now_done_, now_town_names_, goings_sums_values_, now_town_sizes_, goings_sums_stack_, now_town_heaps_)
        else
          (itr (un10 (fb_x_days_37 now_people_ now_gates_ now_hour_ now_ruling_ laws_ru lawsL_codeLength_ lawsL_size_ lawsL_take_ lawsL_fee_ now_lot_ now_born_ lawsL_kinds_ lawsL_to_ lawsL_from_ lawsL_code_ l1)) KF (0, 0, now_x_, now_paid_, now_done_, now_town_names_, goings_sums_values_, now_town_sizes_, goings_sums_stack_, now_town_heaps_)).bind
            (un9 fun l2_17 now_x_18 now_paid_19 now_done_20 now_town_names_21 goings_sums_values_22 now_town_sizes_23 goings_sums_stack_24 now_town_heaps_25 =>
              some (l2_17, now_x_18, now_paid_19, now_done_20, now_town_names_21, goings_sums_values_22, now_town_sizes_23, goings_sums_stack_24, now_town_heaps_25)
            )
def f_tri_copyFrom (size_ : Int32) (cells_n : Nat) (cells_ : Nat → Int32) (p1_size_ : Int32) (p1_cells_n : Nat) (p1_cells_ : Nat → Int32) : Option ((Int32 × (Nat → Int32))) :=
  (f_math_min_II (Int32.ofNat p1_cells_n) (Int32.ofNat cells_n)).bind (fun r1 =>
  if ¬ r1 < 0 then
    if ix 0 + ix r1 ≤ p1_cells_n then
      if ix 0 + ix r1 ≤ cells_n then
        bnd (va_cpy p1_cells_ cells_ 0 0 (ix r1) : Nat → Int32) fun cells_2 =>
        some (p1_size_, cells_2)
      else none
    else none
  else none)
def fb_world_copyFrom_50 (p1_born_ : Nat → Int32) (l2 : Int32) (born_ : Nat → Int32) : Option ((Int32 × (Nat → Int32)) ⊕ (Nat → Int32)) :=
  if l2 < 8 then
    if inb l2 8 then
      if inb l2 8 then
        bnd (upd born_ (ix l2) (vp_nar .boolean (p1_born_ (ix l2))) : Nat → Int32) fun born_3 =>
        some (.inl (l2 + 1, born_3))
      else none
    else none
  else
    some (.inr born_)
def fb_world_copyFrom_76 (p1_lot_ : Nat → Int32) (l2 : Int32) (lot_ : Nat → Int32) : Option ((Int32 × (Nat → Int32)) ⊕ (Nat → Int32)) :=
  if l2 < 3 then
    if inb l2 3 then
      if inb l2 3 then
        bnd (upd lot_ (ix l2) (vp_nar .boolean (p1_lot_ (ix l2))) : Nat → Int32) fun lot_7 =>
        some (.inl (l2 + 1, lot_7))
      else none
    else none
  else
    some (.inr lot_)
def f_world_copyFrom (people_ : Int32) (gates_ : Int32) (hour_ : Int32) (texts_ : Int32) (ruling_ : Int32) (x_ : Int32) (paid_ : Nat → Int32) (done_ : Nat → Int32) (deeds_size_ : Int32) (row_size_ : Int32) (book_size_ : Int32) (lot_ : Nat → Int32) (born_ : Nat → Int32) (town_names_ : Nat → Int32) (town_sizes_ : Nat → Int32) (town_heaps_ : Nat → Nat → Int32) (deeds_cells_ : Nat → Int32) (row_cells_ : Nat → Int32) (book_cells_ : Nat → Int32) (p1_people_ : Int32) (p1_gates_ : Int32) (p1_hour_ : Int32) (p1_texts_ : Int32) (p1_ruling_ : Int32) (p1_x_ : Int32) (p1_paid_ : Nat → Int32) (p1_done_ : Nat → Int32) (p1_deeds_size_ : Int32) (p1_row_size_ : Int32) (p1_book_size_ : Int32) (p1_lot_ : Nat → Int32) (p1_born_ : Nat → Int32) (p1_town_names_ : Nat → Int32) (p1_town_sizes_ : Nat → Int32) (p1_town_heaps_ : Nat → Nat → Int32) (p1_deeds_cells_ : Nat → Int32) (p1_row_cells_ : Nat → Int32) (p1_book_cells_ : Nat → Int32) : Option ((Int32 × Int32 × Int32 × Int32 × Int32 × Int32 × (Nat → Int32) × (Nat → Int32) × Int32 × Int32 × Int32 × (Nat → Int32) × (Nat → Int32) × (Nat → Int32) × (Nat → Int32) × (Nat → Nat → Int32) × (Nat → Int32) × (Nat → Int32) × (Nat → Int32))) :=
  (itr (un2 (fb_world_copyFrom_50 p1_born_)) KF (0, born_)).bind
    (fun born_4 =>
      (itr (un2 (fb_world_copyFrom_76 p1_lot_)) KF (0, lot_)).bind
        (fun lot_8 =>
          bnd (va_cpy p1_paid_ paid_ 0 0 8 : Nat → Int32) fun paid_9 =>
          bnd (va_cpy p1_done_ done_ 0 0 8 : Nat → Int32) fun done_10 =>
          (f_town_copyFrom town_names_ town_sizes_ town_heaps_ p1_town_names_ p1_town_sizes_ p1_town_heaps_).bind (un3 fun town_names_11 town_sizes_12 town_heaps_13 =>
          (f_tri_copyFrom deeds_size_ 60 deeds_cells_ p1_deeds_size_ 60 p1_deeds_cells_).bind (un2 fun deeds_size_14 deeds_cells_15 =>
          (f_tri_copyFrom row_size_ 36 row_cells_ p1_row_size_ 36 p1_row_cells_).bind (un2 fun row_size_16 row_cells_17 =>
          (f_tri_copyFrom book_size_ 18 book_cells_ p1_book_size_ 18 p1_book_cells_).bind (un2 fun book_size_18 book_cells_19 =>
          some (p1_people_, p1_gates_, p1_hour_, p1_texts_, p1_ruling_, p1_x_, paid_9, done_10, deeds_size_14, row_size_16, book_size_18, lot_8, born_4, town_names_11, town_sizes_12, town_heaps_13, deeds_cells_15, row_cells_17, book_cells_19)))))
        )
    )
def f_x_image (now_people_ : Int32) (now_gates_ : Int32) (now_hour_ : Int32) (now_texts_ : Int32) (now_ruling_ : Int32) (now_x_ : Int32) (saved_people_ : Int32) (saved_gates_ : Int32) (saved_hour_ : Int32) (saved_texts_ : Int32) (saved_ruling_ : Int32) (saved_x_ : Int32) (now_paid_ : Nat → Int32) (saved_paid_ : Nat → Int32) (now_done_ : Nat → Int32) (saved_done_ : Nat → Int32) (now_deeds_size_ : Int32) (saved_deeds_size_ : Int32) (now_row_size_ : Int32) (saved_row_size_ : Int32) (now_book_size_ : Int32) (saved_book_size_ : Int32) (now_lot_ : Nat → Int32) (saved_lot_ : Nat → Int32) (now_born_ : Nat → Int32) (saved_born_ : Nat → Int32) (now_town_names_ : Nat → Int32) (saved_town_names_ : Nat → Int32) (now_town_sizes_ : Nat → Int32) (saved_town_sizes_ : Nat → Int32) (now_town_heaps_ : Nat → Nat → Int32) (saved_town_heaps_ : Nat → Nat → Int32) (now_deeds_cells_ : Nat → Int32) (saved_deeds_cells_ : Nat → Int32) (now_row_cells_ : Nat → Int32) (saved_row_cells_ : Nat → Int32) (now_book_cells_ : Nat → Int32) (saved_book_cells_ : Nat → Int32) : Option ((Int32 × Int32 × Int32 × Int32 × Int32 × Int32 × Int32 × (Nat → Int32) × (Nat → Int32) × Int32 × Int32 × Int32 × (Nat → Int32) × (Nat → Int32) × (Nat → Int32) × (Nat → Int32) × (Nat → Nat → Int32) × (Nat → Int32) × (Nat → Int32) × (Nat → Int32))) :=
  (f_world_copyFrom saved_people_ saved_gates_ saved_hour_ saved_texts_ saved_ruling_ saved_x_ saved_paid_ saved_done_ saved_deeds_size_ saved_row_size_ saved_book_size_ saved_lot_ saved_born_ saved_town_names_ saved_town_sizes_ saved_town_heaps_ saved_deeds_cells_ saved_row_cells_ saved_book_cells_ now_people_ now_gates_ now_hour_ now_texts_ now_ruling_ now_x_ now_paid_ now_done_ now_deeds_size_ now_row_size_ now_book_size_ now_lot_ now_born_ now_town_names_ now_town_sizes_ now_town_heaps_ now_deeds_cells_ now_row_cells_ now_book_cells_).bind (un19 fun saved_people_1 saved_gates_2 saved_hour_3 saved_texts_4 saved_ruling_5 saved_x_6 saved_paid_7 saved_done_8 saved_deeds_size_9 saved_row_size_10 saved_book_size_11 saved_lot_12 saved_born_13 saved_town_names_14 saved_town_sizes_15 saved_town_heaps_16 saved_deeds_cells_17 saved_row_cells_18 saved_book_cells_19 =>
  some (now_people_, saved_people_1, saved_gates_2, saved_hour_3, saved_texts_4, saved_ruling_5, saved_x_6, saved_paid_7, saved_done_8, saved_deeds_size_9, saved_row_size_10, saved_book_size_11, saved_lot_12, saved_born_13, saved_town_names_14, saved_town_sizes_15, saved_town_heaps_16, saved_deeds_cells_17, saved_row_cells_18, saved_book_cells_19))
def f_x_back (saved_people_ : Int32) (saved_gates_ : Int32) (saved_hour_ : Int32) (saved_texts_ : Int32) (saved_ruling_ : Int32) (saved_x_ : Int32) (now_people_ : Int32) (now_gates_ : Int32) (now_hour_ : Int32) (now_texts_ : Int32) (now_ruling_ : Int32) (now_x_ : Int32) (saved_paid_ : Nat → Int32) (now_paid_ : Nat → Int32) (saved_done_ : Nat → Int32) (now_done_ : Nat → Int32) (saved_deeds_size_ : Int32) (now_deeds_size_ : Int32) (saved_row_size_ : Int32) (now_row_size_ : Int32) (saved_book_size_ : Int32) (now_book_size_ : Int32) (saved_lot_ : Nat → Int32) (now_lot_ : Nat → Int32) (saved_born_ : Nat → Int32) (now_born_ : Nat → Int32) (saved_town_names_ : Nat → Int32) (now_town_names_ : Nat → Int32) (saved_town_sizes_ : Nat → Int32) (now_town_sizes_ : Nat → Int32) (saved_town_heaps_ : Nat → Nat → Int32) (now_town_heaps_ : Nat → Nat → Int32) (saved_deeds_cells_ : Nat → Int32) (now_deeds_cells_ : Nat → Int32) (saved_row_cells_ : Nat → Int32) (now_row_cells_ : Nat → Int32) (saved_book_cells_ : Nat → Int32) (now_book_cells_ : Nat → Int32) : Option ((Int32 × Int32 × Int32 × Int32 × Int32 × Int32 × Int32 × (Nat → Int32) × (Nat → Int32) × Int32 × Int32 × Int32 × (Nat → Int32) × (Nat → Int32) × (Nat → Int32) × (Nat → Int32) × (Nat → Nat → Int32) × (Nat → Int32) × (Nat → Int32) × (Nat → Int32))) :=
  (f_world_copyFrom now_people_ now_gates_ now_hour_ now_texts_ now_ruling_ now_x_ now_paid_ now_done_ now_deeds_size_ now_row_size_ now_book_size_ now_lot_ now_born_ now_town_names_ now_town_sizes_ now_town_heaps_ now_deeds_cells_ now_row_cells_ now_book_cells_ saved_people_ saved_gates_ saved_hour_ saved_texts_ saved_ruling_ saved_x_ saved_paid_ saved_done_ saved_deeds_size_ saved_row_size_ saved_book_size_ saved_lot_ saved_born_ saved_town_names_ saved_town_sizes_ saved_town_heaps_ saved_deeds_cells_ saved_row_cells_ saved_book_cells_).bind (un19 fun now_people_1 now_gates_2 now_hour_3 now_texts_4 now_ruling_5 now_x_6 now_paid_7 now_done_8 now_deeds_size_9 now_row_size_10 now_book_size_11 now_lot_12 now_born_13 now_town_names_14 now_town_sizes_15 now_town_heaps_16 now_deeds_cells_17 now_row_cells_18 now_book_cells_19 =>
  some (now_people_1, now_people_1, now_gates_2, now_hour_3, now_texts_4, now_ruling_5, now_x_6, now_paid_7, now_done_8, now_deeds_size_9, now_row_size_10, now_book_size_11, now_lot_12, now_born_13, now_town_names_14, now_town_sizes_15, now_town_heaps_16, now_deeds_cells_17, now_row_cells_18, now_book_cells_19))
def f_x_about (now_people_ : Int32) (now_gates_ : Int32) (now_hour_ : Int32) (now_texts_ : Int32) (now_ruling_ : Int32) (now_x_ : Int32) (reader_length_ : Int32) (now_book_size_ : Int32) (now_row_size_ : Int32) (now_deeds_size_ : Int32) (now_town_names_ : Nat → Int32) (l1 : Int32) : Option (Int32) :=
  if l1 = 0 then
    some now_people_
  else
    if l1 = 1 then
      some now_gates_
    else
      if l1 = 2 then
        some now_hour_
      else
        if l1 = 3 then
          some now_texts_
        else
          if l1 = 4 then
            some now_ruling_
          else
            if l1 = 5 then
              some now_deeds_size_
            else
              if l1 = 6 then
                some now_row_size_
              else
                if l1 = 7 then
                  some now_book_size_
                else
                  if l1 = 8 then
                    some reader_length_
                  else
                    if l1 = 9 then
                      (f_world_countInside now_people_ now_town_names_).bind (fun r1 =>
                      some r1)
                    else
                      if l1 = 10 then
                        some now_x_
                      else
                        some (-2)
