def fb_m_copy_2 (l1 : Int32) (l2 : Int32) (l3 : Int32) (d_ : Nat → Int32) : Option ((Int32 × (Nat → Int32)) ⊕ (Nat → Int32)) :=
  if l3 < 35 then
    if inb ((35 * l1) + l3) 560 then
      if inb ((35 * l2) + l3) 560 then
        bnd (upd d_ (ix ((35 * l2) + l3)) (d_ (ix ((35 * l1) + l3))) : Nat → Int32) fun d_3 =>
        some (.inl (l3 + 1, d_3))
      else none
    else none
  else
    some (.inr d_)
def f_m_copy (d_ : Nat → Int32) (l1 : Int32) (l2 : Int32) : Option (Nat → Int32) :=
  (itr (un2 (fb_m_copy_2 l1 l2)) KF (0, d_)).bind
    (fun d_4 =>
      some d_4
    )
def fb_m_keep_2 (a_ : Nat → Int32) (l1 : Int32) (image_ : Nat → Int32) : Option ((Int32 × (Nat → Int32)) ⊕ (Nat → Int32)) :=
  if l1 < 145 then
    if inb l1 145 then
      if inb l1 145 then
        bnd (upd image_ (ix l1) (a_ (ix l1)) : Nat → Int32) fun image_3 =>
        some (.inl (l1 + 1, image_3))
      else none
    else none
  else
    some (.inr image_)
def f_m_keep (a_ : Nat → Int32) (image_ : Nat → Int32) (d_ : Nat → Int32) : Option (((Nat → Int32) × (Nat → Int32))) :=
  (itr (un2 (fb_m_keep_2 a_)) KF (0, image_)).bind
    (fun image_4 =>
      (f_m_copy d_ 0 1).bind (fun d_5 =>
      some (image_4, d_5))
    )
def f_m_tries (b_ : Int32) (l1 : Int32) : Option (Int32) :=
  some (35 * l1)
def f_m_isIn (l0 : Int32) (l1 : Int32) (l2 : Int32) : Option (Int32) :=
  if l0 < l1 then
    some 0
  else
    if l2 < l0 then
      some 0
    else
      some 1
def f_m_held (l0 : Int64) (l2 : Int32) (l3 : Int32) : Option (Int32) :=
  if (lg_cmp l0 l2.toInt64) < 0 then
    some l2
  else
    if 0 < (lg_cmp l0 l3.toInt64) then
      some l3
    else
      some l0.toInt32
def f_m_isPerson (a_ : Nat → Int32) (l1 : Int32) : Option (Int32) :=
  (f_m_isIn l1 0 ((a_ 0) - 1)).bind (fun r1 =>
  if bz r1 then
    some r1
  else none)
def f_m_isGate (a_ : Nat → Int32) (l1 : Int32) : Option (Int32) :=
  (f_m_isIn l1 0 ((a_ 1) - 1)).bind (fun r1 =>
  if bz r1 then
    some r1
  else none)
def f_m_isLot (a_ : Nat → Int32) (l1 : Int32) : Option (Int32) :=
  if inb (36 + l1) 145 then
    if (a_ (ix (36 + l1))) = 1 then
      some 1
    else
      some 0
  else none
def f_m_isBorn (a_ : Nat → Int32) (l1 : Int32) : Option (Int32) :=
  if inb (10 + (3 * l1)) 145 then
    if (a_ (ix (10 + (3 * l1)))) = 1 then
      some 1
    else
      some 0
  else none
def fj_m_person_82 (a_ : Nat → Int32) (d_ : Nat → Int32) (l2 : Int32) (s0 : Int32) (s1 : Int32) : Option ((Int32 × (Nat → Int32) × (Nat → Int32))) :=
  if inb s0 560 then
    bnd (upd d_ (ix s0) s1 : Nat → Int32) fun d_8 =>
    bnd (upd a_ 0 ((a_ 0) + 1) : Nat → Int32) fun a_9 =>
    some (l2, a_9, d_8)
  else none
def fj_m_person_39 (a_ : Nat → Int32) (d_ : Nat → Int32) (l1 : Int32) (l2 : Int32) (s0 : Int32) (s1 : Int32) : Option ((Int32 × (Nat → Int32) × (Nat → Int32))) :=
  if inb s0 145 then
    bnd (upd a_ (ix s0) s1 : Nat → Int32) fun a_2 =>
    if inb ((10 + (3 * l2)) + 1) 145 then
      bnd (upd a_2 (ix ((10 + (3 * l2)) + 1)) 0 : Nat → Int32) fun a_4 =>
      if inb ((10 + (3 * l2)) + 2) 145 then
        bnd (upd a_4 (ix ((10 + (3 * l2)) + 2)) 0 : Nat → Int32) fun a_6 =>
        if l1 = 0 then
          fj_m_person_82 a_6 d_ l2 l2 (-1)
        else
          fj_m_person_82 a_6 d_ l2 l2 l2
      else none
    else none
  else none
def f_m_person (a_ : Nat → Int32) (d_ : Nat → Int32) (l1 : Int32) : Option ((Int32 × (Nat → Int32) × (Nat → Int32))) :=
  if (a_ 0) = 8 then
    some ((-1), a_, d_)
  else
    if l1 = 0 then
      fj_m_person_39 a_ d_ l1 (a_ 0) (10 + (3 * (a_ 0))) 0
    else
      fj_m_person_39 a_ d_ l1 (a_ 0) (10 + (3 * (a_ 0))) 1
def fj_m_gate_34 (a_ : Nat → Int32) (d_ : Nat → Int32) (s0 : Int32) (s1 : Int32) : Option ((Int32 × (Nat → Int32) × (Nat → Int32))) :=
  if inb s0 145 then
    bnd (upd a_ (ix s0) s1 : Nat → Int32) fun a_2 =>
    if inb (8 + (a_2 1)) 560 then
      bnd (upd d_ (ix (8 + (a_2 1))) 0 : Nat → Int32) fun d_4 =>
      bnd (upd a_2 1 ((a_2 1) + 1) : Nat → Int32) fun a_5 =>
      some ((a_5 1) - 1, a_5, d_4)
    else none
  else none
def f_m_gate (a_ : Nat → Int32) (d_ : Nat → Int32) (l1 : Int32) : Option ((Int32 × (Nat → Int32) × (Nat → Int32))) :=
  if (a_ 1) = 3 then
    some ((-1), a_, d_)
  else
    if l1 = 0 then
      fj_m_gate_34 a_ d_ (36 + (a_ 1)) 0
    else
      fj_m_gate_34 a_ d_ (36 + (a_ 1)) 1
def f_m_hour (a_ : Nat → Int32) (l1 : Int32) : Option ((Int32 × (Nat → Int32))) :=
  (f_m_isIn l1 0 23).bind (fun r1 =>
  if r1 = 0 then
    some (0, a_)
  else
    bnd (upd a_ 2 l1 : Nat → Int32) fun a_2 =>
    some (1, a_2))
def fb_m_four_3 (l1 : Int32) (l2 : Int32) (taped_ : Int32) (tape_ : Nat → Int32) : Option ((Int32 × Int32 × (Nat → Int32)) ⊕ (Int32 × (Nat → Int32))) :=
  if l2 < 0 then
    some (.inr (taped_, tape_))
  else
    if inb taped_ 300 then
      bnd (upd tape_ (ix taped_) ((l1 >>> (l2 &&& 31)) &&& 255) : Nat → Int32) fun tape_2 =>
      some (.inl (l2 + (-8), taped_ + 1, tape_2))
    else none
def f_m_four (taped_ : Int32) (tape_ : Nat → Int32) (l1 : Int32) : Option ((Int32 × (Nat → Int32))) :=
  (itr (un3 (fb_m_four_3 l1)) KF (24, taped_, tape_)).bind
    (un2 fun taped_3 tape_4 =>
      some (taped_3, tape_4)
    )
def f_m_feed (taped_ : Int32) (tape_ : Nat → Int32) (l1 : Int32) (l2 : Int32) (l3 : Int32) (l4 : Int32) (l5 : Int32) : Option ((Int32 × Int32 × (Nat → Int32))) :=
  if 300 < (taped_ + 20) then
    some ((-1), taped_, tape_)
  else
    (f_m_four taped_ tape_ l1).bind (un2 fun taped_1 tape_2 =>
    (f_m_four taped_1 tape_2 l2).bind (un2 fun taped_3 tape_4 =>
    (f_m_four taped_3 tape_4 l3).bind (un2 fun taped_5 tape_6 =>
    (f_m_four taped_5 tape_6 l4).bind (un2 fun taped_7 tape_8 =>
    (f_m_four taped_7 tape_8 l5).bind (un2 fun taped_9 tape_10 =>
    some (taped_9, taped_9, tape_10))))))
def f_m_end (taped_ : Int32) (l1 : Int32) : Option ((Int32 × Int32)) :=
  (f_m_isIn l1 0 taped_).bind (fun r1 =>
  if r1 = 0 then
    some ((-1), taped_)
  else
    some (l1, l1))
def f_m_byteAt (taped_ : Int32) (tape_ : Nat → Int32) (l1 : Int32) : Option (Int32) :=
  if l1 < taped_ then
    if inb l1 300 then
      some (tape_ (ix l1))
    else none
  else
    some (-1)
def f_m_isLetter (l0 : Int32) : Option (Int32) :=
  (f_m_isIn l0 97 122).bind (fun r1 =>
  if r1 = 0 then
    (f_m_isIn l0 65 90).bind (fun r2 =>
    if r2 = 0 then
      some 0
    else
      some 1)
  else
    some 1)
def f_m_isDigit (l0 : Int32) : Option (Int32) :=
  (f_m_isIn l0 48 57).bind (fun r1 =>
  if bz r1 then
    some r1
  else none)
def fb_m_nextToken_0 (taped_ : Int32) (tape_ : Nat → Int32) (at_ : Int32) : Option (Int32 ⊕ Int32) :=
  (f_m_byteAt taped_ tape_ at_).bind (fun r1 =>
  if r1 = 32 then
    some (.inl (at_ + 1))
  else
    (f_m_byteAt taped_ tape_ at_).bind (fun r2 =>
    if r2 = 10 then
      some (.inl (at_ + 1))
    else
      some (.inr at_)))
def fj_m_nextToken_358 (taped_ : Int32) (at_ : Int32) (place_ : Int32) (token_ : Int32) (number_ : Int32) (word_ : Int64) (tape_ : Nat → Int32) (l1 : Int32) : Option ((Int32 × Int32 × Int32 × Int32 × Int64)) :=
  (f_m_byteAt taped_ tape_ at_).bind (fun r9 =>
  if r9 = 61 then
    if l1 = 60 then
      some (at_ + 1, place_, 4, number_, word_)
    else
      some (at_ + 1, place_, 5, number_, word_)
  else
    some (at_, place_, token_, number_, word_))
def fj_m_nextToken_343 (taped_ : Int32) (at_ : Int32) (place_ : Int32) (token_ : Int32) (number_ : Int32) (word_ : Int64) (tape_ : Nat → Int32) (l1 : Int32) (s0 : Int32) : Option ((Int32 × Int32 × Int32 × Int32 × Int64)) :=
  if l1 = 60 then
    fj_m_nextToken_358 taped_ at_ place_ s0 number_ word_ tape_ l1
  else
    if l1 = 62 then
      fj_m_nextToken_358 taped_ at_ place_ s0 number_ word_ tape_ l1
    else
      some (at_, place_, s0, number_, word_)
def fj_m_nextToken_332 (taped_ : Int32) (at_ : Int32) (place_ : Int32) (token_ : Int32) (number_ : Int32) (word_ : Int64) (tape_ : Nat → Int32) (l1 : Int32) (s0 : Int32) : Option ((Int32 × Int32 × Int32 × Int32 × Int64)) :=
  if s0 = 0 then
    fj_m_nextToken_343 taped_ at_ place_ token_ number_ word_ tape_ l1 3
  else
    fj_m_nextToken_343 taped_ at_ place_ token_ number_ word_ tape_ l1 l1
def fb_m_nextToken_161 (taped_ : Int32) (place_ : Int32) (tape_ : Nat → Int32) (at_ : Int32) (word_ : Int64) : Option ((Int32 × Int64) ⊕ (Int32 × Int64)) :=
  (f_m_byteAt taped_ tape_ at_).bind (fun r11 =>
  (f_m_isLetter r11).bind (fun r12 =>
  if r12 = 0 then
    some (.inr (at_, word_))
  else
    if (at_ - place_) < 7 then
      (f_m_byteAt taped_ tape_ at_).bind (fun r13 =>
      bnd ((word_ <<< ((8 : Int32).toInt64 &&& 63)) ||| r13.toInt64 : Int64) fun word_14 =>
      some (.inl (at_ + 1, word_14)))
    else
      some (.inl (at_ + 1, word_))))
def fb_m_nextToken_85 (taped_ : Int32) (tape_ : Nat → Int32) (at_ : Int32) (number_ : Int32) : Option ((Int32 × Int32) ⊕ (Int32 × Int32)) :=
  (f_m_byteAt taped_ tape_ at_).bind (fun r21 =>
  (f_m_isDigit r21).bind (fun r22 =>
  if r22 = 0 then
    some (.inr (at_, number_))
  else
    if number_ < 100000 then
      (f_m_byteAt taped_ tape_ at_).bind (fun r23 =>
      bnd (((10 * number_) + r23) - 48 : Int32) fun number_24 =>
      some (.inl (at_ + 1, number_24)))
    else
      some (.inl (at_ + 1, number_))))
def f_m_nextToken (taped_ : Int32) (at_ : Int32) (place_ : Int32) (token_ : Int32) (number_ : Int32) (word_ : Int64) (tape_ : Nat → Int32) : Option ((Int32 × Int32 × Int32 × Int32 × Int64)) :=
  (itr (fb_m_nextToken_0 taped_ tape_) KF at_).bind
    (fun at_5 =>
      (f_m_byteAt taped_ tape_ at_5).bind (fun r6 =>
      if r6 < 0 then
        some (at_5, at_5, 0, number_, word_)
      else
        (f_m_isDigit r6).bind (fun r7 =>
        if r7 = 0 then
          (f_m_isLetter r6).bind (fun r8 =>
          if r8 = 0 then
            if r6 = 60 then
              fj_m_nextToken_332 taped_ (at_5 + 1) at_5 token_ number_ word_ tape_ r6 1
            else
              if r6 = 62 then
                fj_m_nextToken_332 taped_ (at_5 + 1) at_5 token_ number_ word_ tape_ r6 1
              else
                if r6 = 61 then
                  fj_m_nextToken_332 taped_ (at_5 + 1) at_5 token_ number_ word_ tape_ r6 1
                else
                  if r6 = 35 then
                    fj_m_nextToken_332 taped_ (at_5 + 1) at_5 token_ number_ word_ tape_ r6 1
                  else
                    if r6 = 43 then
                      fj_m_nextToken_332 taped_ (at_5 + 1) at_5 token_ number_ word_ tape_ r6 1
                    else
                      if r6 = 45 then
                        fj_m_nextToken_332 taped_ (at_5 + 1) at_5 token_ number_ word_ tape_ r6 1
                      else
                        if r6 = 42 then
                          fj_m_nextToken_332 taped_ (at_5 + 1) at_5 token_ number_ word_ tape_ r6 1
                        else
                          if r6 = 47 then
                            fj_m_nextToken_332 taped_ (at_5 + 1) at_5 token_ number_ word_ tape_ r6 1
                          else
                            if r6 = 37 then
                              fj_m_nextToken_332 taped_ (at_5 + 1) at_5 token_ number_ word_ tape_ r6 1
                            else
                              if r6 = 40 then
                                fj_m_nextToken_332 taped_ (at_5 + 1) at_5 token_ number_ word_ tape_ r6 1
                              else
                                if r6 = 41 then
                                  fj_m_nextToken_332 taped_ (at_5 + 1) at_5 token_ number_ word_ tape_ r6 1
                                else
                                  if r6 = 59 then
                                    fj_m_nextToken_332 taped_ (at_5 + 1) at_5 token_ number_ word_ tape_ r6 1
                                  else
                                    fj_m_nextToken_332 taped_ (at_5 + 1) at_5 token_ number_ word_ tape_ r6 0
          else
            (itr (un2 (fb_m_nextToken_161 taped_ at_5 tape_)) KF (at_5, 0)).bind
              (un2 fun at_18 word_19 =>
                if 7 < (at_18 - at_5) then
                  some (at_18, at_5, 2, number_, 0)
                else
                  some (at_18, at_5, 2, number_, word_19)
              ))
        else
          (itr (un2 (fb_m_nextToken_85 taped_ tape_)) KF (at_5, 0)).bind
            (un2 fun at_28 number_29 =>
              some (at_28, at_5, 1, number_29, word_)
            )))
    )
def f_m_w3 (l0 : Int32) (l1 : Int32) (l2 : Int32) : Option (Int64) :=
  some ((((l0.toInt64 <<< ((8 : Int32).toInt64 &&& 63)) ||| l1.toInt64) <<< ((8 : Int32).toInt64 &&& 63)) ||| l2.toInt64)
def f_m_w5 (l0 : Int32) (l1 : Int32) (l2 : Int32) (l3 : Int32) (l4 : Int32) : Option (Int64) :=
  (f_m_w3 l0 l1 l2).bind (fun r1 =>
  some ((((r1 <<< ((8 : Int32).toInt64 &&& 63)) ||| l3.toInt64) <<< ((8 : Int32).toInt64 &&& 63)) ||| l4.toInt64))
def f_m_w4 (l0 : Int32) (l1 : Int32) (l2 : Int32) (l3 : Int32) : Option (Int64) :=
  (f_m_w3 l0 l1 l2).bind (fun r1 =>
  some ((r1 <<< ((8 : Int32).toInt64 &&& 63)) ||| l3.toInt64))
def f_m_isWord (token_ : Int32) (word_ : Int64) (l1 : Int64) : Option (Int32) :=
  if token_ = 2 then
    if (lg_cmp word_ l1) = 0 then
      some 1
    else
      some 0
  else
    some 0
def f_m_emit (text0_ : Int32) (written_ : Int32) (texts_ : Nat → Int32) (l1 : Int32) (l2 : Int32) : Option ((Int32 × (Nat → Int32))) :=
  if inb ((text0_ + 70) + (2 * written_)) 2720 then
    bnd (upd texts_ (ix ((text0_ + 70) + (2 * written_))) l1 : Nat → Int32) fun texts_2 =>
    if inb (((text0_ + 70) + (2 * written_)) + 1) 2720 then
      bnd (upd texts_2 (ix (((text0_ + 70) + (2 * written_)) + 1)) l2 : Nat → Int32) fun texts_4 =>
      some (written_ + 1, texts_4)
    else none
  else none
def f_m_push (piled_ : Int32) (pile_ : Nat → Int32) (l1 : Int32) : Option ((Int32 × (Nat → Int32))) :=
  if inb piled_ 160 then
    bnd (upd pile_ (ix piled_) l1 : Nat → Int32) fun pile_2 =>
    some (piled_ + 1, pile_2)
  else none
def fb_m_whole_5 (text0_ : Int32) (pile_ : Nat → Int32) (written_ : Int32) (piled_ : Int32) (opens_ : Int32) (texts_ : Nat → Int32) : Option ((Int32 × Int32 × Int32 × (Nat → Int32)) ⊕ (Int32 × Int32 × Int32 × (Nat → Int32))) :=
  if 0 < piled_ then
    if inb (piled_ - 1) 160 then
      if (pile_ (ix (piled_ - 1))) = 2 then
        (f_m_emit text0_ written_ texts_ 2 0).bind (un2 fun written_2 texts_3 =>
        some (.inl (written_2, piled_ - 1, opens_ - 1, texts_3)))
      else
        some (.inr (written_, piled_, opens_, texts_))
    else none
  else
    some (.inr (written_, piled_, opens_, texts_))
def f_m_whole (text0_ : Int32) (written_ : Int32) (piled_ : Int32) (opens_ : Int32) (isWhole_ : Int32) (texts_ : Nat → Int32) (pile_ : Nat → Int32) : Option ((Int32 × Int32 × Int32 × Int32 × (Nat → Int32))) :=
  (itr (un4 (fb_m_whole_5 text0_ pile_)) KF (written_, piled_, opens_, texts_)).bind
    (un4 fun written_5 piled_6 opens_7 texts_8 =>
      some (written_5, piled_6, opens_7, 1, texts_8)
    )
def fb_m_settle_0 (text0_ : Int32) (pile_ : Nat → Int32) (l1 : Int32) (written_ : Int32) (piled_ : Int32) (texts_ : Nat → Int32) : Option ((Int32 × Int32 × (Nat → Int32)) ⊕ (Int32 × Int32 × (Nat → Int32))) :=
  if 0 < piled_ then
    if inb (piled_ - 1) 160 then
      if (pile_ (ix (piled_ - 1))) < 40 then
        if inb (piled_ - 1) 160 then
          if (pile_ (ix (piled_ - 1))) < l1 then
            some (.inr (written_, piled_, texts_))
          else
            if inb (piled_ - 1) 160 then
              (f_m_emit text0_ written_ texts_ (pile_ (ix (piled_ - 1))) 0).bind (un2 fun written_4 texts_5 =>
              some (.inl (written_4, piled_ - 1, texts_5)))
            else none
        else none
      else
        some (.inr (written_, piled_, texts_))
    else none
  else
    some (.inr (written_, piled_, texts_))
def f_m_settle (text0_ : Int32) (written_ : Int32) (piled_ : Int32) (texts_ : Nat → Int32) (pile_ : Nat → Int32) (l1 : Int32) : Option ((Int32 × Int32 × (Nat → Int32))) :=
  (itr (un3 (fb_m_settle_0 text0_ pile_ l1)) KF (written_, piled_, texts_)).bind
    (un3 fun written_7 piled_8 texts_9 =>
      some (written_7, piled_8, texts_9)
    )
def f_m_nameOf (token_ : Int32) (word_ : Int64) : Option (Int32) :=
  if token_ = 2 then
    (f_m_w5 112 108 97 99 101).bind (fun r1 =>
    if (lg_cmp word_ r1) = 0 then
      some 0
    else
      (f_m_w4 110 97 109 101).bind (fun r2 =>
      if (lg_cmp word_ r2) = 0 then
        some 1
      else
        (f_m_w3 111 119 110).bind (fun r3 =>
        if (lg_cmp word_ r3) = 0 then
          some 2
        else
          (f_m_w3 119 104 111).bind (fun r4 =>
          if (lg_cmp word_ r4) = 0 then
            some 3
          else
            (f_m_w4 103 97 116 101).bind (fun r5 =>
            if (lg_cmp word_ r5) = 0 then
              some 4
            else
              (f_m_w4 115 105 122 101).bind (fun r6 =>
              if (lg_cmp word_ r6) = 0 then
                some 5
              else
                (f_m_w4 104 111 117 114).bind (fun r7 =>
                if (lg_cmp word_ r7) = 0 then
                  some 6
                else
                  if (lg_cmp word_ (Int64.ofInt 26990)) = 0 then
                    some 7
                  else
                    some (-1))))))))
  else
    some (-1)
def f_m_isBarred (sort0_ : Int32) (l1 : Int32) : Option (Int32) :=
  if sort0_ = 0 then
    if l1 = 7 then
      some 1
    else
      some 0
  else
    if l1 = 0 then
      some 1
    else
      if l1 = 2 then
        some 1
      else
        some 0
def fj_m_beginOne_106 (taped_ : Int32) (at_ : Int32) (place_ : Int32) (token_ : Int32) (number_ : Int32) (word_ : Int64) (written_ : Int32) (piled_ : Int32) (opens_ : Int32) (isWhole_ : Int32) (texts_ : Nat → Int32) (tape_ : Nat → Int32) (pile_ : Nat → Int32) (s0 : Int32) : Option ((Int32 × Int32 × Int32 × Int32 × Int32 × Int64 × Int32 × Int32 × Int32 × Int32 × (Nat → Int32) × (Nat → Int32))) :=
  if s0 = 0 then
    some (1, at_, place_, token_, number_, word_, written_, piled_, opens_, isWhole_, texts_, pile_)
  else
    if opens_ = 8 then
      some (3, at_, place_, token_, number_, word_, written_, piled_, opens_, isWhole_, texts_, pile_)
    else
      (f_m_push piled_ pile_ s0).bind (un2 fun piled_2 pile_3 =>
      (f_m_nextToken taped_ at_ place_ token_ number_ word_ tape_).bind (un5 fun at_4 place_5 token_6 number_7 word_8 =>
      some (0, at_4, place_5, token_6, number_7, word_8, written_, piled_2, opens_ + 1, isWhole_, texts_, pile_3)))
def f_m_beginOne (taped_ : Int32) (at_ : Int32) (place_ : Int32) (token_ : Int32) (number_ : Int32) (word_ : Int64) (text0_ : Int32) (written_ : Int32) (piled_ : Int32) (opens_ : Int32) (isWhole_ : Int32) (sort0_ : Int32) (texts_ : Nat → Int32) (tape_ : Nat → Int32) (pile_ : Nat → Int32) : Option ((Int32 × Int32 × Int32 × Int32 × Int32 × Int64 × Int32 × Int32 × Int32 × Int32 × (Nat → Int32) × (Nat → Int32))) :=
  if token_ = 1 then
    if 9999 < number_ then
      some (2, at_, place_, token_, number_, word_, written_, piled_, opens_, isWhole_, texts_, pile_)
    else
      (f_m_emit text0_ written_ texts_ 0 number_).bind (un2 fun written_33 texts_34 =>
      (f_m_nextToken taped_ at_ place_ token_ number_ word_ tape_).bind (un5 fun at_35 place_36 token_37 number_38 word_39 =>
      (f_m_whole text0_ written_33 piled_ opens_ isWhole_ texts_34 pile_).bind (un5 fun written_40 piled_41 opens_42 isWhole_43 texts_44 =>
      some (0, at_35, place_36, token_37, number_38, word_39, written_40, piled_41, opens_42, isWhole_43, texts_44, pile_))))
  else
    (f_m_nameOf token_ word_).bind (fun r1 =>
    if r1 < 0 then
      if token_ = 40 then
        fj_m_beginOne_106 taped_ at_ place_ token_ number_ word_ written_ piled_ opens_ isWhole_ texts_ tape_ pile_ 40
      else
        if token_ = 45 then
          fj_m_beginOne_106 taped_ at_ place_ token_ number_ word_ written_ piled_ opens_ isWhole_ texts_ tape_ pile_ 2
        else
          fj_m_beginOne_106 taped_ at_ place_ token_ number_ word_ written_ piled_ opens_ isWhole_ texts_ tape_ pile_ 0
    else
      (f_m_nameOf token_ word_).bind (fun r11 =>
      (f_m_isBarred sort0_ r11).bind (fun r12 =>
      if r12 = 0 then
        (f_m_nameOf token_ word_).bind (fun r13 =>
        (f_m_emit text0_ written_ texts_ 1 r13).bind (un2 fun written_14 texts_15 =>
        (f_m_nextToken taped_ at_ place_ token_ number_ word_ tape_).bind (un5 fun at_16 place_17 token_18 number_19 word_20 =>
        (f_m_whole text0_ written_14 piled_ opens_ isWhole_ texts_15 pile_).bind (un5 fun written_21 piled_22 opens_23 isWhole_24 texts_25 =>
        some (0, at_16, place_17, token_18, number_19, word_20, written_21, piled_22, opens_23, isWhole_24, texts_25, pile_)))))
      else
        some (5, at_, place_, token_, number_, word_, written_, piled_, opens_, isWhole_, texts_, pile_))))
def fb_m_hasParen_2 (piled_ : Int32) (pile_ : Nat → Int32) (l1 : Int32) : Option (Int32 ⊕ (Unit ⊕ Unit)) :=
  if l1 < piled_ then
    if inb l1 160 then
      if (pile_ (ix l1)) = 40 then
        some (.inr (.inl ()))
      else
        some (.inl (l1 + 1))
    else none
  else
    some (.inr (.inr (())))
def f_m_hasParen (piled_ : Int32) (pile_ : Nat → Int32) : Option (Int32) :=
  (itr (fb_m_hasParen_2 piled_ pile_) KF 0).bind
    (Sum.elim
      (fun _ =>
        some 1
      )
      (fun _ =>
        some 0
      )
    )
def f_m_goesOn (token_ : Int32) (piled_ : Int32) (pile_ : Nat → Int32) : Option (Int32) :=
  if token_ = 43 then
    some 1
  else
    if token_ = 45 then
      some 1
    else
      if token_ = 42 then
        some 1
      else
        if token_ = 47 then
          some 1
        else
          if token_ = 37 then
            some 1
          else
            if token_ = 41 then
              (f_m_hasParen piled_ pile_).bind (fun r1 =>
              if r1 = 0 then
                some 0
              else
                some 1)
            else
              some 0
def fj_m_behindOne_132 (taped_ : Int32) (at_ : Int32) (place_ : Int32) (token_ : Int32) (number_ : Int32) (word_ : Int64) (written_ : Int32) (piled_ : Int32) (opens_ : Int32) (isWhole_ : Int32) (texts_ : Nat → Int32) (tape_ : Nat → Int32) (pile_ : Nat → Int32) : Option ((Int32 × Int32 × Int32 × Int32 × Int32 × Int64 × Int32 × Int32 × Int32 × Int32 × (Nat → Int32) × (Nat → Int32))) :=
  (f_m_nextToken taped_ at_ place_ token_ number_ word_ tape_).bind (un5 fun at_6 place_7 token_8 number_9 word_10 =>
  some (0, at_6, place_7, token_8, number_9, word_10, written_, piled_, opens_, isWhole_, texts_, pile_))
def fj_m_behindOne_34 (taped_ : Int32) (at_ : Int32) (place_ : Int32) (token_ : Int32) (number_ : Int32) (word_ : Int64) (written_ : Int32) (piled_ : Int32) (opens_ : Int32) (isWhole_ : Int32) (texts_ : Nat → Int32) (tape_ : Nat → Int32) (pile_ : Nat → Int32) (s0 : Int32) : Option ((Int32 × Int32 × Int32 × Int32 × Int32 × Int64 × Int32 × Int32 × Int32 × Int32 × (Nat → Int32) × (Nat → Int32))) :=
  (f_m_push piled_ pile_ s0).bind (un2 fun piled_4 pile_5 =>
  fj_m_behindOne_132 taped_ at_ place_ token_ number_ word_ written_ piled_4 opens_ 0 texts_ tape_ pile_5)
def fj_m_behindOne_17 (taped_ : Int32) (at_ : Int32) (place_ : Int32) (token_ : Int32) (number_ : Int32) (word_ : Int64) (text0_ : Int32) (written_ : Int32) (piled_ : Int32) (opens_ : Int32) (isWhole_ : Int32) (texts_ : Nat → Int32) (tape_ : Nat → Int32) (pile_ : Nat → Int32) (l1 : Int32) : Option ((Int32 × Int32 × Int32 × Int32 × Int32 × Int64 × Int32 × Int32 × Int32 × Int32 × (Nat → Int32) × (Nat → Int32))) :=
  (f_m_settle text0_ written_ piled_ texts_ pile_ 3).bind (un3 fun written_1 piled_2 texts_3 =>
  if l1 = 43 then
    fj_m_behindOne_34 taped_ at_ place_ token_ number_ word_ written_1 piled_2 opens_ isWhole_ texts_3 tape_ pile_ 3
  else
    fj_m_behindOne_34 taped_ at_ place_ token_ number_ word_ written_1 piled_2 opens_ isWhole_ texts_3 tape_ pile_ 4)
def fj_m_behindOne_92 (taped_ : Int32) (at_ : Int32) (place_ : Int32) (token_ : Int32) (number_ : Int32) (word_ : Int64) (written_ : Int32) (piled_ : Int32) (opens_ : Int32) (isWhole_ : Int32) (texts_ : Nat → Int32) (tape_ : Nat → Int32) (pile_ : Nat → Int32) (s0 : Int32) : Option ((Int32 × Int32 × Int32 × Int32 × Int32 × Int64 × Int32 × Int32 × Int32 × Int32 × (Nat → Int32) × (Nat → Int32))) :=
  (f_m_push piled_ pile_ s0).bind (un2 fun piled_17 pile_18 =>
  fj_m_behindOne_132 taped_ at_ place_ token_ number_ word_ written_ piled_17 opens_ 0 texts_ tape_ pile_18)
def fj_m_behindOne_63 (taped_ : Int32) (at_ : Int32) (place_ : Int32) (token_ : Int32) (number_ : Int32) (word_ : Int64) (text0_ : Int32) (written_ : Int32) (piled_ : Int32) (opens_ : Int32) (isWhole_ : Int32) (texts_ : Nat → Int32) (tape_ : Nat → Int32) (pile_ : Nat → Int32) (l1 : Int32) : Option ((Int32 × Int32 × Int32 × Int32 × Int32 × Int64 × Int32 × Int32 × Int32 × Int32 × (Nat → Int32) × (Nat → Int32))) :=
  (f_m_settle text0_ written_ piled_ texts_ pile_ 5).bind (un3 fun written_14 piled_15 texts_16 =>
  if l1 = 42 then
    fj_m_behindOne_92 taped_ at_ place_ token_ number_ word_ written_14 piled_15 opens_ isWhole_ texts_16 tape_ pile_ 5
  else
    if l1 = 47 then
      fj_m_behindOne_92 taped_ at_ place_ token_ number_ word_ written_14 piled_15 opens_ isWhole_ texts_16 tape_ pile_ 6
    else
      fj_m_behindOne_92 taped_ at_ place_ token_ number_ word_ written_14 piled_15 opens_ isWhole_ texts_16 tape_ pile_ 7)
def f_m_behindOne (taped_ : Int32) (at_ : Int32) (place_ : Int32) (token_ : Int32) (number_ : Int32) (word_ : Int64) (text0_ : Int32) (written_ : Int32) (piled_ : Int32) (opens_ : Int32) (isWhole_ : Int32) (texts_ : Nat → Int32) (tape_ : Nat → Int32) (pile_ : Nat → Int32) : Option ((Int32 × Int32 × Int32 × Int32 × Int32 × Int64 × Int32 × Int32 × Int32 × Int32 × (Nat → Int32) × (Nat → Int32))) :=
  if token_ = 43 then
    fj_m_behindOne_17 taped_ at_ place_ token_ number_ word_ text0_ written_ piled_ opens_ isWhole_ texts_ tape_ pile_ token_
  else
    if token_ = 45 then
      fj_m_behindOne_17 taped_ at_ place_ token_ number_ word_ text0_ written_ piled_ opens_ isWhole_ texts_ tape_ pile_ token_
    else
      if token_ = 42 then
        fj_m_behindOne_63 taped_ at_ place_ token_ number_ word_ text0_ written_ piled_ opens_ isWhole_ texts_ tape_ pile_ token_
      else
        if token_ = 47 then
          fj_m_behindOne_63 taped_ at_ place_ token_ number_ word_ text0_ written_ piled_ opens_ isWhole_ texts_ tape_ pile_ token_
        else
          if token_ = 37 then
            fj_m_behindOne_63 taped_ at_ place_ token_ number_ word_ text0_ written_ piled_ opens_ isWhole_ texts_ tape_ pile_ token_
          else
            (f_m_settle text0_ written_ piled_ texts_ pile_ 3).bind (un3 fun written_21 piled_22 texts_23 =>
            (f_m_whole text0_ written_21 (piled_22 - 1) (opens_ - 1) isWhole_ texts_23 pile_).bind (un5 fun written_24 piled_25 opens_26 isWhole_27 texts_28 =>
            fj_m_behindOne_132 taped_ at_ place_ token_ number_ word_ written_24 piled_25 opens_26 isWhole_27 texts_28 tape_ pile_))
def fj_m_summed_42_10 (taped_ : Int32) (at_ : Int32) (place_ : Int32) (token_ : Int32) (number_ : Int32) (word_ : Int64) (text0_ : Int32) (written_ : Int32) (piled_ : Int32) (opens_ : Int32) (isWhole_ : Int32) (sort0_ : Int32) (texts_ : Nat → Int32) (tape_ : Nat → Int32) (pile_ : Nat → Int32) (s0 : Int32) : Option ((Int32 × Int32 × Int32 × Int32 × Int64 × Int32 × Int32 × Int32 × Int32 × (Nat → Int32) × (Nat → Int32)) ⊕ ((Int32 × Int32 × Int32 × Int32 × Int32 × Int64 × Int32 × Int32 × Int32 × Int32 × (Nat → Int32) × (Nat → Int32)) ⊕ (Int32 × Int32 × Int32 × Int32 × Int64 × Int32 × Int32 × Int32 × Int32 × (Nat → Int32) × (Nat → Int32)))) :=
  if s0 = 0 then
    some (.inl (at_, place_, token_, number_, word_, written_, piled_, opens_, isWhole_, texts_, pile_))
  else
    some (.inr (.inl (s0, at_, place_, token_, number_, word_, written_, piled_, opens_, isWhole_, texts_, pile_)))
def fj_m_summed_24_10 (taped_ : Int32) (at_ : Int32) (place_ : Int32) (token_ : Int32) (number_ : Int32) (word_ : Int64) (text0_ : Int32) (written_ : Int32) (piled_ : Int32) (opens_ : Int32) (isWhole_ : Int32) (sort0_ : Int32) (texts_ : Nat → Int32) (tape_ : Nat → Int32) (pile_ : Nat → Int32) : Option ((Int32 × Int32 × Int32 × Int32 × Int64 × Int32 × Int32 × Int32 × Int32 × (Nat → Int32) × (Nat → Int32)) ⊕ ((Int32 × Int32 × Int32 × Int32 × Int32 × Int64 × Int32 × Int32 × Int32 × Int32 × (Nat → Int32) × (Nat → Int32)) ⊕ (Int32 × Int32 × Int32 × Int32 × Int64 × Int32 × Int32 × Int32 × Int32 × (Nat → Int32) × (Nat → Int32)))) :=
  if isWhole_ = 0 then
    (f_m_beginOne taped_ at_ place_ token_ number_ word_ text0_ written_ piled_ opens_ isWhole_ sort0_ texts_ tape_ pile_).bind (un12 fun r1 at_2 place_3 token_4 number_5 word_6 written_7 piled_8 opens_9 isWhole_10 texts_11 pile_12 =>
    fj_m_summed_42_10 taped_ at_2 place_3 token_4 number_5 word_6 text0_ written_7 piled_8 opens_9 isWhole_10 sort0_ texts_11 tape_ pile_12 r1)
  else
    (f_m_behindOne taped_ at_ place_ token_ number_ word_ text0_ written_ piled_ opens_ isWhole_ texts_ tape_ pile_).bind (un12 fun r14 at_15 place_16 token_17 number_18 word_19 written_20 piled_21 opens_22 isWhole_23 texts_24 pile_25 =>
    fj_m_summed_42_10 taped_ at_15 place_16 token_17 number_18 word_19 text0_ written_20 piled_21 opens_22 isWhole_23 sort0_ texts_24 tape_ pile_25 r14)
def fb_m_summed_10 (taped_ : Int32) (text0_ : Int32) (sort0_ : Int32) (tape_ : Nat → Int32) (at_ : Int32) (place_ : Int32) (token_ : Int32) (number_ : Int32) (word_ : Int64) (written_ : Int32) (piled_ : Int32) (opens_ : Int32) (isWhole_ : Int32) (texts_ : Nat → Int32) (pile_ : Nat → Int32) : Option ((Int32 × Int32 × Int32 × Int32 × Int64 × Int32 × Int32 × Int32 × Int32 × (Nat → Int32) × (Nat → Int32)) ⊕ ((Int32 × Int32 × Int32 × Int32 × Int32 × Int64 × Int32 × Int32 × Int32 × Int32 × (Nat → Int32) × (Nat → Int32)) ⊕ (Int32 × Int32 × Int32 × Int32 × Int64 × Int32 × Int32 × Int32 × Int32 × (Nat → Int32) × (Nat → Int32)))) :=
  if isWhole_ = 0 then
    fj_m_summed_24_10 taped_ at_ place_ token_ number_ word_ text0_ written_ piled_ opens_ isWhole_ sort0_ texts_ tape_ pile_
  else
    (f_m_goesOn token_ piled_ pile_).bind (fun r27 =>
    if r27 = 0 then
      some (.inr (.inr ((at_, place_, token_, number_, word_, written_, piled_, opens_, isWhole_, texts_, pile_))))
    else
      fj_m_summed_24_10 taped_ at_ place_ token_ number_ word_ text0_ written_ piled_ opens_ isWhole_ sort0_ texts_ tape_ pile_)
def f_m_summed (taped_ : Int32) (at_ : Int32) (place_ : Int32) (token_ : Int32) (number_ : Int32) (word_ : Int64) (text0_ : Int32) (written_ : Int32) (piled_ : Int32) (opens_ : Int32) (isWhole_ : Int32) (sort0_ : Int32) (texts_ : Nat → Int32) (tape_ : Nat → Int32) (pile_ : Nat → Int32) : Option ((Int32 × Int32 × Int32 × Int32 × Int32 × Int64 × Int32 × Int32 × Int32 × Int32 × (Nat → Int32) × (Nat → Int32))) :=
  (itr (un11 (fb_m_summed_10 taped_ text0_ sort0_ tape_)) KF (at_, place_, token_, number_, word_, written_, 0, opens_, 0, texts_, pile_)).bind
    (Sum.elim
      (un12 fun l1_29 at_30 place_31 token_32 number_33 word_34 written_35 piled_36 opens_37 isWhole_38 texts_39 pile_40 =>
        some (l1_29, at_30, place_31, token_32, number_33, word_34, written_35, piled_36, opens_37, isWhole_38, texts_39, pile_40)
      )
      (un11 fun at_41 place_42 token_43 number_44 word_45 written_46 piled_47 opens_48 isWhole_49 texts_50 pile_51 =>
        (f_m_settle text0_ written_46 piled_47 texts_50 pile_51 3).bind (un3 fun written_52 piled_53 texts_54 =>
        if 0 < piled_53 then
          some (1, at_41, place_42, token_43, number_44, word_45, written_52, piled_53, opens_48, isWhole_49, texts_54, pile_51)
        else
          some (0, at_41, place_42, token_43, number_44, word_45, written_52, piled_53, opens_48, isWhole_49, texts_54, pile_51))
      )
    )
def f_m_compareOf (token_ : Int32) : Option (Int32) :=
  if token_ = 60 then
    some 10
  else
    if token_ = 4 then
      some 11
    else
      if token_ = 62 then
        some 12
      else
        if token_ = 5 then
          some 13
        else
          if token_ = 61 then
            some 14
          else
            if token_ = 35 then
              some 15
            else
              some (-1)
def fb_m_asks_2 (taped_ : Int32) (tape_ : Nat → Int32) (l1 : Int32) (at_ : Int32) (place_ : Int32) (token_ : Int32) (number_ : Int32) (word_ : Int64) (opens_ : Int32) : Option ((Int32 × Int32 × Int32 × Int32 × Int32 × Int64 × Int32) ⊕ ((Int32 × Int32 × Int32 × Int32 × Int64 × Int32) ⊕ (Int32 × Int32 × Int32 × Int32 × Int32 × Int64 × Int32))) :=
  (f_m_w3 110 111 116).bind (fun r1 =>
  (f_m_isWord token_ word_ r1).bind (fun r2 =>
  if r2 = 0 then
    some (.inr (.inr ((l1, at_, place_, token_, number_, word_, opens_))))
  else
    if opens_ = 8 then
      some (.inr (.inl (at_, place_, token_, number_, word_, opens_)))
    else
      (f_m_nextToken taped_ at_ place_ token_ number_ word_ tape_).bind (un5 fun at_3 place_4 token_5 number_6 word_7 =>
      some (.inl (l1 + 1, at_3, place_4, token_5, number_6, word_7, opens_ + 1)))))
def fb_m_asks_105 (text0_ : Int32) (l1 : Int32) (l4 : Int32) (written_ : Int32) (texts_ : Nat → Int32) : Option ((Int32 × Int32 × (Nat → Int32)) ⊕ (Int32 × (Nat → Int32))) :=
  if l4 < l1 then
    (f_m_emit text0_ written_ texts_ 20 0).bind (un2 fun written_56 texts_57 =>
    some (.inl (l4 + 1, written_56, texts_57)))
  else
    some (.inr (written_, texts_))
def f_m_asks (taped_ : Int32) (at_ : Int32) (place_ : Int32) (token_ : Int32) (number_ : Int32) (word_ : Int64) (text0_ : Int32) (written_ : Int32) (piled_ : Int32) (opens_ : Int32) (isWhole_ : Int32) (sort0_ : Int32) (texts_ : Nat → Int32) (tape_ : Nat → Int32) (pile_ : Nat → Int32) : Option ((Int32 × Int32 × Int32 × Int32 × Int32 × Int64 × Int32 × Int32 × Int32 × Int32 × (Nat → Int32) × (Nat → Int32))) :=
  (itr (un7 (fb_m_asks_2 taped_ tape_)) KF (0, at_, place_, token_, number_, word_, opens_)).bind
    (Sum.elim
      (un6 fun at_11 place_12 token_13 number_14 word_15 opens_16 =>
        some (3, at_11, place_12, token_13, number_14, word_15, written_, piled_, opens_16, isWhole_, texts_, pile_)
      )
      (un7 fun l1_17 at_18 place_19 token_20 number_21 word_22 opens_23 =>
        (f_m_summed taped_ at_18 place_19 token_20 number_21 word_22 text0_ written_ piled_ opens_23 isWhole_ sort0_ texts_ tape_ pile_).bind (un12 fun r24 at_25 place_26 token_27 number_28 word_29 written_30 piled_31 opens_32 isWhole_33 texts_34 pile_35 =>
        if r24 = 0 then
          (f_m_compareOf token_27).bind (fun r36 =>
          if r36 < 0 then
            some (1, at_25, place_26, token_27, number_28, word_29, written_30, piled_31, opens_32, isWhole_33, texts_34, pile_35)
          else
            (f_m_nextToken taped_ at_25 place_26 token_27 number_28 word_29 tape_).bind (un5 fun at_37 place_38 token_39 number_40 word_41 =>
            (f_m_summed taped_ at_37 place_38 token_39 number_40 word_41 text0_ written_30 piled_31 opens_32 isWhole_33 sort0_ texts_34 tape_ pile_35).bind (un12 fun r42 at_43 place_44 token_45 number_46 word_47 written_48 piled_49 opens_50 isWhole_51 texts_52 pile_53 =>
            if r42 = 0 then
              (f_m_emit text0_ written_48 texts_52 r36 0).bind (un2 fun written_54 texts_55 =>
              (itr (un3 (fb_m_asks_105 text0_ l1_17)) KF (0, written_54, texts_55)).bind
                (un2 fun written_59 texts_60 =>
                  some (0, at_43, place_44, token_45, number_46, word_47, written_59, piled_49, opens_50 - l1_17, isWhole_51, texts_60, pile_53)
                ))
            else
              some (r42, at_43, place_44, token_45, number_46, word_47, written_48, piled_49, opens_50, isWhole_51, texts_52, pile_53))))
        else
          some (r24, at_25, place_26, token_27, number_28, word_29, written_30, piled_31, opens_32, isWhole_33, texts_34, pile_35))
      )
    )
def fj_m_either_107_6 (taped_ : Int32) (at_ : Int32) (place_ : Int32) (token_ : Int32) (number_ : Int32) (word_ : Int64) (text0_ : Int32) (written_ : Int32) (piled_ : Int32) (opens_ : Int32) (isWhole_ : Int32) (sort0_ : Int32) (texts_ : Nat → Int32) (tape_ : Nat → Int32) (pile_ : Nat → Int32) (l1 : Int32) (l2 : Int32) (s0 : Int32) : Option ((Int32 × Int32 × Int32 × Int32 × Int32 × Int32 × Int32 × Int64 × Int32 × Int32 × Int32 × Int32 × (Nat → Int32) × (Nat → Int32)) ⊕ ((Int32 × Int32 × Int32 × Int32 × Int32 × Int64 × Int32 × Int32 × Int32 × Int32 × (Nat → Int32) × (Nat → Int32)) ⊕ (Int32 × Int32 × Int32 × Int32 × Int64 × Int32 × Int32 × Int32 × Int32 × (Nat → Int32) × (Nat → Int32)))) :=
  if s0 = 0 then
    some (.inl (l1, l2, s0, at_, place_, token_, number_, word_, written_, piled_, opens_, isWhole_, texts_, pile_))
  else
    (f_m_nextToken taped_ at_ place_ token_ number_ word_ tape_).bind (un5 fun at_15 place_16 token_17 number_18 word_19 =>
    some (.inl (l1, l2, s0, at_15, place_16, token_17, number_18, word_19, written_, piled_, opens_, isWhole_, texts_, pile_)))
def fj_m_either_93_6 (taped_ : Int32) (at_ : Int32) (place_ : Int32) (token_ : Int32) (number_ : Int32) (word_ : Int64) (text0_ : Int32) (written_ : Int32) (piled_ : Int32) (opens_ : Int32) (isWhole_ : Int32) (sort0_ : Int32) (texts_ : Nat → Int32) (tape_ : Nat → Int32) (pile_ : Nat → Int32) (l1 : Int32) (l2 : Int32) (l5 : Int32) : Option ((Int32 × Int32 × Int32 × Int32 × Int32 × Int32 × Int32 × Int64 × Int32 × Int32 × Int32 × Int32 × (Nat → Int32) × (Nat → Int32)) ⊕ ((Int32 × Int32 × Int32 × Int32 × Int32 × Int64 × Int32 × Int32 × Int32 × Int32 × (Nat → Int32) × (Nat → Int32)) ⊕ (Int32 × Int32 × Int32 × Int32 × Int64 × Int32 × Int32 × Int32 × Int32 × (Nat → Int32) × (Nat → Int32)))) :=
  if l1 = 0 then
    if l5 = 0 then
      fj_m_either_107_6 taped_ at_ place_ token_ number_ word_ text0_ written_ piled_ opens_ isWhole_ sort0_ texts_ tape_ pile_ l1 l2 0
    else
      fj_m_either_107_6 taped_ at_ place_ token_ number_ word_ text0_ written_ piled_ opens_ isWhole_ sort0_ texts_ tape_ pile_ l1 l2 1
  else
    fj_m_either_107_6 taped_ at_ place_ token_ number_ word_ text0_ written_ piled_ opens_ isWhole_ sort0_ texts_ tape_ pile_ l1 l2 1
def fj_m_either_73_6 (taped_ : Int32) (at_ : Int32) (place_ : Int32) (token_ : Int32) (number_ : Int32) (word_ : Int64) (text0_ : Int32) (written_ : Int32) (piled_ : Int32) (opens_ : Int32) (isWhole_ : Int32) (sort0_ : Int32) (texts_ : Nat → Int32) (tape_ : Nat → Int32) (pile_ : Nat → Int32) (l1 : Int32) (l2 : Int32) (s0 : Int32) : Option ((Int32 × Int32 × Int32 × Int32 × Int32 × Int32 × Int32 × Int64 × Int32 × Int32 × Int32 × Int32 × (Nat → Int32) × (Nat → Int32)) ⊕ ((Int32 × Int32 × Int32 × Int32 × Int32 × Int64 × Int32 × Int32 × Int32 × Int32 × (Nat → Int32) × (Nat → Int32)) ⊕ (Int32 × Int32 × Int32 × Int32 × Int64 × Int32 × Int32 × Int32 × Int32 × (Nat → Int32) × (Nat → Int32)))) :=
  if l1 = 0 then
    if l2 = 0 then
      fj_m_either_93_6 taped_ at_ place_ token_ number_ word_ text0_ written_ piled_ opens_ isWhole_ sort0_ texts_ tape_ pile_ l1 s0 s0
    else
      (f_m_emit text0_ written_ texts_ 22 0).bind (un2 fun written_21 texts_22 =>
      fj_m_either_93_6 taped_ at_ place_ token_ number_ word_ text0_ written_21 piled_ opens_ isWhole_ sort0_ texts_22 tape_ pile_ l1 s0 s0)
  else
    fj_m_either_93_6 taped_ at_ place_ token_ number_ word_ text0_ written_ piled_ opens_ isWhole_ sort0_ texts_ tape_ pile_ l1 l2 s0
def fj_m_either_35_6 (taped_ : Int32) (at_ : Int32) (place_ : Int32) (token_ : Int32) (number_ : Int32) (word_ : Int64) (text0_ : Int32) (written_ : Int32) (piled_ : Int32) (opens_ : Int32) (isWhole_ : Int32) (sort0_ : Int32) (texts_ : Nat → Int32) (tape_ : Nat → Int32) (pile_ : Nat → Int32) (l2 : Int32) : Option ((Int32 × Int32 × Int32 × Int32 × Int32 × Int32 × Int32 × Int64 × Int32 × Int32 × Int32 × Int32 × (Nat → Int32) × (Nat → Int32)) ⊕ ((Int32 × Int32 × Int32 × Int32 × Int32 × Int64 × Int32 × Int32 × Int32 × Int32 × (Nat → Int32) × (Nat → Int32)) ⊕ (Int32 × Int32 × Int32 × Int32 × Int64 × Int32 × Int32 × Int32 × Int32 × (Nat → Int32) × (Nat → Int32)))) :=
  (f_m_w3 97 110 100).bind (fun r13 =>
  (f_m_isWord token_ word_ r13).bind (fun r14 =>
  if token_ = 2 then
    if (lg_cmp word_ (Int64.ofInt 28530)) = 0 then
      fj_m_either_73_6 taped_ at_ place_ token_ number_ word_ text0_ written_ piled_ opens_ isWhole_ sort0_ texts_ tape_ pile_ r14 l2 1
    else
      fj_m_either_73_6 taped_ at_ place_ token_ number_ word_ text0_ written_ piled_ opens_ isWhole_ sort0_ texts_ tape_ pile_ r14 l2 0
  else
    fj_m_either_73_6 taped_ at_ place_ token_ number_ word_ text0_ written_ piled_ opens_ isWhole_ sort0_ texts_ tape_ pile_ r14 l2 0))
def fb_m_either_6 (taped_ : Int32) (text0_ : Int32) (sort0_ : Int32) (tape_ : Nat → Int32) (l1 : Int32) (l2 : Int32) (l3 : Int32) (at_ : Int32) (place_ : Int32) (token_ : Int32) (number_ : Int32) (word_ : Int64) (written_ : Int32) (piled_ : Int32) (opens_ : Int32) (isWhole_ : Int32) (texts_ : Nat → Int32) (pile_ : Nat → Int32) : Option ((Int32 × Int32 × Int32 × Int32 × Int32 × Int32 × Int32 × Int64 × Int32 × Int32 × Int32 × Int32 × (Nat → Int32) × (Nat → Int32)) ⊕ ((Int32 × Int32 × Int32 × Int32 × Int32 × Int64 × Int32 × Int32 × Int32 × Int32 × (Nat → Int32) × (Nat → Int32)) ⊕ (Int32 × Int32 × Int32 × Int32 × Int64 × Int32 × Int32 × Int32 × Int32 × (Nat → Int32) × (Nat → Int32)))) :=
  if l3 = 0 then
    some (.inr (.inr ((at_, place_, token_, number_, word_, written_, piled_, opens_, isWhole_, texts_, pile_))))
  else
    (f_m_asks taped_ at_ place_ token_ number_ word_ text0_ written_ piled_ opens_ isWhole_ sort0_ texts_ tape_ pile_).bind (un12 fun r1 at_2 place_3 token_4 number_5 word_6 written_7 piled_8 opens_9 isWhole_10 texts_11 pile_12 =>
    if r1 = 0 then
      if l1 = 0 then
        fj_m_either_35_6 taped_ at_2 place_3 token_4 number_5 word_6 text0_ written_7 piled_8 opens_9 isWhole_10 sort0_ texts_11 tape_ pile_12 l2
      else
        (f_m_emit text0_ written_7 texts_11 21 0).bind (un2 fun written_26 texts_27 =>
        fj_m_either_35_6 taped_ at_2 place_3 token_4 number_5 word_6 text0_ written_26 piled_8 opens_9 isWhole_10 sort0_ texts_27 tape_ pile_12 l2)
    else
      some (.inr (.inl (r1, at_2, place_3, token_4, number_5, word_6, written_7, piled_8, opens_9, isWhole_10, texts_11, pile_12))))
def f_m_either (taped_ : Int32) (at_ : Int32) (place_ : Int32) (token_ : Int32) (number_ : Int32) (word_ : Int64) (text0_ : Int32) (written_ : Int32) (piled_ : Int32) (opens_ : Int32) (isWhole_ : Int32) (sort0_ : Int32) (texts_ : Nat → Int32) (tape_ : Nat → Int32) (pile_ : Nat → Int32) : Option ((Int32 × Int32 × Int32 × Int32 × Int32 × Int64 × Int32 × Int32 × Int32 × Int32 × (Nat → Int32) × (Nat → Int32))) :=
  (itr (un14 (fb_m_either_6 taped_ text0_ sort0_ tape_)) KF (0, 0, 1, at_, place_, token_, number_, word_, written_, piled_, opens_, isWhole_, texts_, pile_)).bind
    (Sum.elim
      (un12 fun l4_30 at_31 place_32 token_33 number_34 word_35 written_36 piled_37 opens_38 isWhole_39 texts_40 pile_41 =>
        some (l4_30, at_31, place_32, token_33, number_34, word_35, written_36, piled_37, opens_38, isWhole_39, texts_40, pile_41)
      )
      (un11 fun at_42 place_43 token_44 number_45 word_46 written_47 piled_48 opens_49 isWhole_50 texts_51 pile_52 =>
        some (0, at_42, place_43, token_44, number_45, word_46, written_47, piled_48, opens_49, isWhole_50, texts_51, pile_52)
      )
    )
def f_m_sortOf (token_ : Int32) (word_ : Int64) : Option (Int32) :=
  (f_m_w4 116 97 107 101).bind (fun r1 =>
  (f_m_isWord token_ word_ r1).bind (fun r2 =>
  if r2 = 0 then
    (f_m_w3 102 101 101).bind (fun r3 =>
    (f_m_isWord token_ word_ r3).bind (fun r4 =>
    if r4 = 0 then
      (f_m_w4 98 97 114 115).bind (fun r5 =>
      (f_m_isWord token_ word_ r5).bind (fun r6 =>
      if r6 = 0 then
        if token_ = 2 then
          if (lg_cmp word_ (Int64.ofInt 26479)) = 0 then
            some 3
          else
            some (-1)
        else
          some (-1)
      else
        some 2))
    else
      some 1))
  else
    some 0))
def f_m_figure (taped_ : Int32) (at_ : Int32) (place_ : Int32) (token_ : Int32) (number_ : Int32) (word_ : Int64) (texts_ : Nat → Int32) (tape_ : Nat → Int32) (l1 : Int32) (l2 : Int32) : Option ((Int32 × Int32 × Int32 × Int32 × Int32 × Int64 × (Nat → Int32))) :=
  if token_ = 1 then
    if l2 < number_ then
      some (2, at_, place_, token_, number_, word_, texts_)
    else
      if inb l1 2720 then
        bnd (upd texts_ (ix l1) number_ : Nat → Int32) fun texts_2 =>
        (f_m_nextToken taped_ at_ place_ token_ number_ word_ tape_).bind (un5 fun at_3 place_4 token_5 number_6 word_7 =>
        some (0, at_3, place_4, token_5, number_6, word_7, texts_2))
      else none
  else
    some (1, at_, place_, token_, number_, word_, texts_)
def f_m_goneBy (taped_ : Int32) (at_ : Int32) (place_ : Int32) (token_ : Int32) (number_ : Int32) (word_ : Int64) (texts_ : Nat → Int32) (tape_ : Nat → Int32) (l1 : Int32) : Option ((Int32 × Int32 × Int32 × Int32 × Int32 × Int64 × (Nat → Int32))) :=
  (f_m_figure taped_ at_ place_ token_ number_ word_ texts_ tape_ (l1 + 1) 7).bind (un7 fun r1 at_2 place_3 token_4 number_5 word_6 texts_7 =>
  if r1 = 0 then
    if token_4 = 2 then
      if (lg_cmp word_6 (Int64.ofInt 25209)) = 0 then
        (f_m_nextToken taped_ at_2 place_3 token_4 number_5 word_6 tape_).bind (un5 fun at_8 place_9 token_10 number_11 word_12 =>
        (f_m_figure taped_ at_8 place_9 token_10 number_11 word_12 texts_7 tape_ (l1 + 2) 2).bind (un7 fun r13 at_14 place_15 token_16 number_17 word_18 texts_19 =>
        some (r13, at_14, place_15, token_16, number_17, word_18, texts_19)))
      else
        some (1, at_2, place_3, token_4, number_5, word_6, texts_7)
    else
      some (1, at_2, place_3, token_4, number_5, word_6, texts_7)
  else
    some (r1, at_2, place_3, token_4, number_5, word_6, texts_7))
def fj_m_clause_165 (taped_ : Int32) (at_ : Int32) (place_ : Int32) (token_ : Int32) (number_ : Int32) (word_ : Int64) (text0_ : Int32) (written_ : Int32) (piled_ : Int32) (opens_ : Int32) (isWhole_ : Int32) (sort0_ : Int32) (once_ : Int32) (texts_ : Nat → Int32) (tape_ : Nat → Int32) (pile_ : Nat → Int32) : Option ((Int32 × Int32 × Int32 × Int32 × Int32 × Int64 × Int32 × Int32 × Int32 × Int32 × Int32 × Int32 × (Nat → Int32) × (Nat → Int32))) :=
  if inb text0_ 2720 then
    if inb text0_ 2720 then
      bnd (upd texts_ (ix text0_) ((texts_ (ix text0_)) + 1) : Nat → Int32) fun texts_25 =>
      if token_ = 59 then
        (f_m_nextToken taped_ at_ place_ token_ number_ word_ tape_).bind (un5 fun at_26 place_27 token_28 number_29 word_30 =>
        some (0, at_26, place_27, token_28, number_29, word_30, written_, piled_, opens_, isWhole_, sort0_, once_, texts_25, pile_))
      else
        some (1, at_, place_, token_, number_, word_, written_, piled_, opens_, isWhole_, sort0_, once_, texts_25, pile_)
    else none
  else none
def fj_m_clause_128 (taped_ : Int32) (at_ : Int32) (place_ : Int32) (token_ : Int32) (number_ : Int32) (word_ : Int64) (text0_ : Int32) (written_ : Int32) (piled_ : Int32) (opens_ : Int32) (isWhole_ : Int32) (sort0_ : Int32) (once_ : Int32) (texts_ : Nat → Int32) (tape_ : Nat → Int32) (pile_ : Nat → Int32) (l1 : Int32) (l3 : Int32) (l4 : Int32) (s0 : Int32) : Option ((Int32 × Int32 × Int32 × Int32 × Int32 × Int64 × Int32 × Int32 × Int32 × Int32 × Int32 × Int32 × (Nat → Int32) × (Nat → Int32))) :=
  if s0 = 0 then
    if l1 = 3 then
      fj_m_clause_165 taped_ at_ place_ token_ number_ word_ text0_ written_ piled_ opens_ isWhole_ sort0_ once_ texts_ tape_ pile_
    else
      if inb (l3 + 1) 2720 then
        bnd (upd texts_ (ix (l3 + 1)) l4 : Nat → Int32) fun texts_33 =>
        if inb (l3 + 2) 2720 then
          bnd (upd texts_33 (ix (l3 + 2)) written_ : Nat → Int32) fun texts_35 =>
          if inb text0_ 2720 then
            if inb text0_ 2720 then
              bnd (upd texts_35 (ix text0_) ((texts_35 (ix text0_)) + 1) : Nat → Int32) fun texts_38 =>
              if token_ = 59 then
                (f_m_nextToken taped_ at_ place_ token_ number_ word_ tape_).bind (un5 fun at_39 place_40 token_41 number_42 word_43 =>
                some (0, at_39, place_40, token_41, number_42, word_43, written_, piled_, opens_, isWhole_, sort0_, once_, texts_38, pile_))
              else
                some (1, at_, place_, token_, number_, word_, written_, piled_, opens_, isWhole_, sort0_, once_, texts_38, pile_)
            else none
          else none
        else none
      else none
  else
    some (s0, at_, place_, token_, number_, word_, written_, piled_, opens_, isWhole_, sort0_, once_, texts_, pile_)
def fj_m_clause_66 (taped_ : Int32) (at_ : Int32) (place_ : Int32) (token_ : Int32) (number_ : Int32) (word_ : Int64) (text0_ : Int32) (written_ : Int32) (piled_ : Int32) (opens_ : Int32) (isWhole_ : Int32) (sort0_ : Int32) (once_ : Int32) (texts_ : Nat → Int32) (tape_ : Nat → Int32) (pile_ : Nat → Int32) (l1 : Int32) (l2 : Int32) : Option ((Int32 × Int32 × Int32 × Int32 × Int32 × Int64 × Int32 × Int32 × Int32 × Int32 × Int32 × Int32 × (Nat → Int32) × (Nat → Int32))) :=
  (f_m_nextToken taped_ at_ place_ token_ number_ word_ tape_).bind (un5 fun at_3 place_4 token_5 number_6 word_7 =>
  bnd ((text0_ + 1) + (3 * l2) : Int32) fun t8 =>
  if inb t8 2720 then
    bnd (upd texts_ (ix t8) l1 : Nat → Int32) fun texts_10 =>
    if l1 = 3 then
      (f_m_goneBy taped_ at_3 place_4 token_5 number_6 word_7 texts_10 tape_ t8).bind (un7 fun r59 at_60 place_61 token_62 number_63 word_64 texts_65 =>
      fj_m_clause_128 taped_ at_60 place_61 token_62 number_63 word_64 text0_ written_ piled_ opens_ isWhole_ l1 once_ texts_65 tape_ pile_ l1 t8 written_ r59)
    else
      if l1 = 2 then
        (f_m_either taped_ at_3 place_4 token_5 number_6 word_7 text0_ written_ piled_ opens_ isWhole_ l1 texts_10 tape_ pile_).bind (un12 fun r46 at_47 place_48 token_49 number_50 word_51 written_52 piled_53 opens_54 isWhole_55 texts_56 pile_57 =>
        fj_m_clause_128 taped_ at_47 place_48 token_49 number_50 word_51 text0_ written_52 piled_53 opens_54 isWhole_55 l1 once_ texts_56 tape_ pile_57 l1 t8 written_ r46)
      else
        (f_m_summed taped_ at_3 place_4 token_5 number_6 word_7 text0_ written_ piled_ opens_ isWhole_ l1 texts_10 tape_ pile_).bind (un12 fun r11 at_12 place_13 token_14 number_15 word_16 written_17 piled_18 opens_19 isWhole_20 texts_21 pile_22 =>
        fj_m_clause_128 taped_ at_12 place_13 token_14 number_15 word_16 text0_ written_17 piled_18 opens_19 isWhole_20 l1 once_ texts_21 tape_ pile_22 l1 t8 written_ r11)
  else none)
def fj_m_clause_30 (taped_ : Int32) (at_ : Int32) (place_ : Int32) (token_ : Int32) (number_ : Int32) (word_ : Int64) (text0_ : Int32) (written_ : Int32) (piled_ : Int32) (opens_ : Int32) (isWhole_ : Int32) (sort0_ : Int32) (once_ : Int32) (texts_ : Nat → Int32) (tape_ : Nat → Int32) (pile_ : Nat → Int32) (l1 : Int32) : Option ((Int32 × Int32 × Int32 × Int32 × Int32 × Int64 × Int32 × Int32 × Int32 × Int32 × Int32 × Int32 × (Nat → Int32) × (Nat → Int32))) :=
  if inb text0_ 2720 then
    if (texts_ (ix text0_)) = 20 then
      some (6, at_, place_, token_, number_, word_, written_, piled_, opens_, isWhole_, sort0_, once_, texts_, pile_)
    else
      if l1 < 2 then
        fj_m_clause_66 taped_ at_ place_ token_ number_ word_ text0_ written_ piled_ opens_ isWhole_ sort0_ (once_ ||| (1 <<< (l1 &&& 31))) texts_ tape_ pile_ l1 (texts_ (ix text0_))
      else
        fj_m_clause_66 taped_ at_ place_ token_ number_ word_ text0_ written_ piled_ opens_ isWhole_ sort0_ once_ texts_ tape_ pile_ l1 (texts_ (ix text0_))
  else none
def f_m_clause (taped_ : Int32) (at_ : Int32) (place_ : Int32) (token_ : Int32) (number_ : Int32) (word_ : Int64) (text0_ : Int32) (written_ : Int32) (piled_ : Int32) (opens_ : Int32) (isWhole_ : Int32) (sort0_ : Int32) (once_ : Int32) (texts_ : Nat → Int32) (tape_ : Nat → Int32) (pile_ : Nat → Int32) : Option ((Int32 × Int32 × Int32 × Int32 × Int32 × Int64 × Int32 × Int32 × Int32 × Int32 × Int32 × Int32 × (Nat → Int32) × (Nat → Int32))) :=
  (f_m_sortOf token_ word_).bind (fun r1 =>
  if r1 < 0 then
    some (1, at_, place_, token_, number_, word_, written_, piled_, opens_, isWhole_, sort0_, once_, texts_, pile_)
  else
    if r1 < 2 then
      if ((once_ >>> (r1 &&& 31)) &&& 1) = 1 then
        some (4, at_, place_, token_, number_, word_, written_, piled_, opens_, isWhole_, sort0_, once_, texts_, pile_)
      else
        fj_m_clause_30 taped_ at_ place_ token_ number_ word_ text0_ written_ piled_ opens_ isWhole_ sort0_ once_ texts_ tape_ pile_ r1
    else
      fj_m_clause_30 taped_ at_ place_ token_ number_ word_ text0_ written_ piled_ opens_ isWhole_ sort0_ once_ texts_ tape_ pile_ r1)
def fb_m_readText_48 (taped_ : Int32) (text0_ : Int32) (tape_ : Nat → Int32) (at_ : Int32) (place_ : Int32) (token_ : Int32) (number_ : Int32) (word_ : Int64) (written_ : Int32) (piled_ : Int32) (opens_ : Int32) (isWhole_ : Int32) (sort0_ : Int32) (once_ : Int32) (texts_ : Nat → Int32) (pile_ : Nat → Int32) : Option ((Int32 × Int32 × Int32 × Int32 × Int64 × Int32 × Int32 × Int32 × Int32 × Int32 × Int32 × (Nat → Int32) × (Nat → Int32)) ⊕ ((Int32 × Int32 × Int32 × Int32 × Int32 × Int64 × Int32 × Int32 × Int32 × Int32 × Int32 × Int32 × (Nat → Int32) × (Nat → Int32)) ⊕ (Int32 × Int32 × Int32 × Int32 × Int64 × Int32 × Int32 × Int32 × Int32 × Int32 × Int32 × (Nat → Int32) × (Nat → Int32)))) :=
  if token_ = 0 then
    some (.inr (.inr ((at_, place_, token_, number_, word_, written_, piled_, opens_, isWhole_, sort0_, once_, texts_, pile_))))
  else
    (f_m_clause taped_ at_ place_ token_ number_ word_ text0_ written_ piled_ opens_ isWhole_ sort0_ once_ texts_ tape_ pile_).bind (un14 fun r8 at_9 place_10 token_11 number_12 word_13 written_14 piled_15 opens_16 isWhole_17 sort0_18 once_19 texts_20 pile_21 =>
    if r8 = 0 then
      some (.inl (at_9, place_10, token_11, number_12, word_13, written_14, piled_15, opens_16, isWhole_17, sort0_18, once_19, texts_20, pile_21))
    else
      some (.inr (.inl (r8, at_9, place_10, token_11, number_12, word_13, written_14, piled_15, opens_16, isWhole_17, sort0_18, once_19, texts_20, pile_21))))
def f_m_readText (taped_ : Int32) (at_ : Int32) (place_ : Int32) (token_ : Int32) (number_ : Int32) (word_ : Int64) (text0_ : Int32) (written_ : Int32) (piled_ : Int32) (opens_ : Int32) (isWhole_ : Int32) (sort0_ : Int32) (once_ : Int32) (a_ : Nat → Int32) (texts_ : Nat → Int32) (tape_ : Nat → Int32) (pile_ : Nat → Int32) : Option ((Int32 × Int32 × Int32 × Int32 × Int32 × Int64 × Int32 × Int32 × Int32 × Int32 × Int32 × Int32 × Int32 × (Nat → Int32) × (Nat → Int32))) :=
  if inb (680 * (a_ 3)) 2720 then
    bnd (upd texts_ (ix (680 * (a_ 3))) 0 : Nat → Int32) fun texts_2 =>
    (f_m_nextToken taped_ 0 place_ token_ number_ word_ tape_).bind (un5 fun at_3 place_4 token_5 number_6 word_7 =>
    (itr (un13 (fb_m_readText_48 taped_ (680 * (a_ 3)) tape_)) KF (at_3, place_4, token_5, number_6, word_7, 0, piled_, 0, isWhole_, sort0_, 0, texts_2, pile_)).bind
      (Sum.elim
        (un14 fun l1_23 at_24 place_25 token_26 number_27 word_28 written_29 piled_30 opens_31 isWhole_32 sort0_33 once_34 texts_35 pile_36 =>
          some (l1_23, at_24, place_25, token_26, number_27, word_28, 680 * (a_ 3), written_29, piled_30, opens_31, isWhole_32, sort0_33, once_34, texts_35, pile_36)
        )
        (un13 fun at_37 place_38 token_39 number_40 word_41 written_42 piled_43 opens_44 isWhole_45 sort0_46 once_47 texts_48 pile_49 =>
          some (0, at_37, place_38, token_39, number_40, word_41, 680 * (a_ 3), written_42, piled_43, opens_44, isWhole_45, sort0_46, once_47, texts_48, pile_49)
        )
      ))
  else none
def fj_m_text_36 (taped_ : Int32) (fault_ : Int32) (faultPlace_ : Int32) (at_ : Int32) (place_ : Int32) (token_ : Int32) (number_ : Int32) (word_ : Int64) (text0_ : Int32) (written_ : Int32) (piled_ : Int32) (opens_ : Int32) (isWhole_ : Int32) (sort0_ : Int32) (once_ : Int32) (a_ : Nat → Int32) (texts_ : Nat → Int32) (pile_ : Nat → Int32) (s0 : Int32) : Option ((Int32 × Int32 × Int32 × Int32 × Int32 × Int32 × Int32 × Int32 × Int64 × Int32 × Int32 × Int32 × Int32 × Int32 × Int32 × Int32 × (Nat → Int32) × (Nat → Int32) × (Nat → Int32))) :=
  if fault_ = 0 then
    bnd (upd a_ 3 ((a_ 3) + 1) : Nat → Int32) fun a_16 =>
    some ((a_16 3) - 1, 0, fault_, s0, at_, place_, token_, number_, word_, text0_, written_, piled_, opens_, isWhole_, sort0_, once_, a_16, texts_, pile_)
  else
    some ((-1), 0, fault_, s0, at_, place_, token_, number_, word_, text0_, written_, piled_, opens_, isWhole_, sort0_, once_, a_, texts_, pile_)
def f_m_text (taped_ : Int32) (fault_ : Int32) (faultPlace_ : Int32) (at_ : Int32) (place_ : Int32) (token_ : Int32) (number_ : Int32) (word_ : Int64) (text0_ : Int32) (written_ : Int32) (piled_ : Int32) (opens_ : Int32) (isWhole_ : Int32) (sort0_ : Int32) (once_ : Int32) (a_ : Nat → Int32) (texts_ : Nat → Int32) (tape_ : Nat → Int32) (pile_ : Nat → Int32) : Option ((Int32 × Int32 × Int32 × Int32 × Int32 × Int32 × Int32 × Int32 × Int64 × Int32 × Int32 × Int32 × Int32 × Int32 × Int32 × Int32 × (Nat → Int32) × (Nat → Int32) × (Nat → Int32))) :=
  if (a_ 3) = 4 then
    some ((-1), taped_, fault_, faultPlace_, at_, place_, token_, number_, word_, text0_, written_, piled_, opens_, isWhole_, sort0_, once_, a_, texts_, pile_)
  else
    (f_m_readText taped_ at_ place_ token_ number_ word_ text0_ written_ piled_ opens_ isWhole_ sort0_ once_ a_ texts_ tape_ pile_).bind (un15 fun r1 at_2 place_3 token_4 number_5 word_6 text0_7 written_8 piled_9 opens_10 isWhole_11 sort0_12 once_13 texts_14 pile_15 =>
    if r1 = 0 then
      fj_m_text_36 taped_ r1 faultPlace_ at_2 place_3 token_4 number_5 word_6 text0_7 written_8 piled_9 opens_10 isWhole_11 sort0_12 once_13 a_ texts_14 pile_15 (-1)
    else
      fj_m_text_36 taped_ r1 faultPlace_ at_2 place_3 token_4 number_5 word_6 text0_7 written_8 piled_9 opens_10 isWhole_11 sort0_12 once_13 a_ texts_14 pile_15 place_3)
def f_m_fault (fault_ : Int32) (faultPlace_ : Int32) (l1 : Int32) : Option (Int32) :=
  if l1 = 0 then
    some fault_
  else
    if l1 = 1 then
      some faultPlace_
    else
      some (-1)
def f_m_by (a_ : Nat → Int32) (l1 : Int32) : Option ((Int32 × (Nat → Int32))) :=
  (f_m_isIn l1 (-1) ((a_ 3) - 1)).bind (fun r1 =>
  if r1 = 0 then
    some (0, a_)
  else
    bnd (upd a_ 4 l1 : Nat → Int32) fun a_2 =>
    some (1, a_2))
def f_m_nameAt (b_ : Int32) (d_ : Nat → Int32) (l1 : Int32) : Option (Int32) :=
  if inb (b_ + l1) 560 then
    some (d_ (ix (b_ + l1)))
  else none
def f_m_hung (b_ : Int32) (d_ : Nat → Int32) (l1 : Int32) : Option (Int32) :=
  if inb ((b_ + 8) + l1) 560 then
    some (d_ (ix ((b_ + 8) + l1)))
  else none
def fj_m_nameAll_57 (b_ : Int32) (d_ : Nat → Int32) (named_ : Nat → Int32) (l1 : Int32) (s0 : Int32) (s1 : Int32) : Option (Nat → Int32) :=
  if inb s0 8 then
    bnd (upd named_ (ix s0) s1 : Nat → Int32) fun named_8 =>
    (f_m_nameAt b_ d_ l1).bind (fun r9 =>
    bnd (upd named_8 1 r9 : Nat → Int32) fun named_10 =>
    some named_10)
  else none
def f_m_nameAll (b_ : Int32) (a_ : Nat → Int32) (d_ : Nat → Int32) (named_ : Nat → Int32) (l1 : Int32) (l2 : Int32) : Option (Nat → Int32) :=
  bnd (upd named_ 3 l1 : Nat → Int32) fun named_1 =>
  bnd (upd named_1 4 l2 : Nat → Int32) fun named_2 =>
  (f_m_hung b_ d_ l2).bind (fun r3 =>
  bnd (upd named_2 5 r3 : Nat → Int32) fun named_4 =>
  bnd (upd named_4 6 (a_ 2) : Nat → Int32) fun named_5 =>
  (f_m_nameAt b_ d_ l1).bind (fun r6 =>
  if r6 < 0 then
    fj_m_nameAll_57 b_ d_ named_5 l1 7 1
  else
    fj_m_nameAll_57 b_ d_ named_5 l1 7 0))
def f_m_clauses (a_ : Nat → Int32) (texts_ : Nat → Int32) : Option (Int32) :=
  if (a_ 4) < 0 then
    some 0
  else
    if inb (680 * (a_ 4)) 2720 then
      some (texts_ (ix (680 * (a_ 4))))
    else none
def f_m_sortAt (a_ : Nat → Int32) (texts_ : Nat → Int32) (l1 : Int32) : Option (Int32) :=
  if inb (((680 * (a_ 4)) + 1) + (3 * l1)) 2720 then
    some (texts_ (ix (((680 * (a_ 4)) + 1) + (3 * l1))))
  else none
def f_m_clip (l0 : Int64) : Option (Int64) :=
  if 0 < (lg_cmp l0 (Int64.ofInt 1000000)) then
    some (Int64.ofInt 1000000)
  else
    if (lg_cmp l0 (Int64.ofInt (-1000000))) < 0 then
      some (Int64.ofInt (-1000000))
    else
      some l0
def f_m_two (l0 : Int32) (l1 : Int64) (l3 : Int64) : Option (Int64) :=
  if l0 = 3 then
    (f_m_clip (l1 + l3)).bind (fun r12 =>
    some r12)
  else
    if l0 = 4 then
      (f_m_clip (l1 - l3)).bind (fun r10 =>
      some r10)
    else
      if l0 = 5 then
        (f_m_clip (l1 * l3)).bind (fun r8 =>
        some r8)
      else
        if l0 = 6 then
          if (lg_cmp l3 0) = 0 then
            some 0
          else
            if ¬ l3 = 0 then
              (f_m_clip (l1 / l3)).bind (fun r6 =>
              some r6)
            else none
        else
          if l0 = 7 then
            if (lg_cmp l3 0) = 0 then
              some 0
            else
              if ¬ l3 = 0 then
                some (rem64 l1 l3)
              else none
          else
            if (lg_cmp l3 0) = 0 then
              some 0
            else
              if ¬ l3 = 0 then
                (f_m_clip (l1 / l3)).bind (fun r2 =>
                some r2)
              else none
def f_m_isAsked (l0 : Int32) (l1 : Int64) (l3 : Int64) : Option (Int32) :=
  if l0 = 10 then
    if (lg_cmp l1 l3) < 0 then
      some 1
    else
      some 0
  else
    if l0 = 11 then
      if 0 < (lg_cmp l1 l3) then
        some 0
      else
        some 1
    else
      if l0 = 12 then
        if 0 < (lg_cmp l1 l3) then
          some 1
        else
          some 0
      else
        if l0 = 13 then
          if (lg_cmp l1 l3) < 0 then
            some 0
          else
            some 1
        else
          if l0 = 14 then
            if (lg_cmp l1 l3) = 0 then
              some 1
            else
              some 0
          else
            if (lg_cmp l1 l3) = 0 then
              some 0
            else
              some 1
def fb_m_work_47 (texts_ : Nat → Int32) (named_ : Nat → Int32) (l2 : Int32) (l3 : Int32) (l4 : Int32) (l5 : Int32) (l6 : Int32) (values_ : Nat → Int64) (truth_ : Nat → Int32) : Option ((Int32 × Int32 × Int32 × (Nat → Int64) × (Nat → Int32)) ⊕ ((Nat → Int64) × (Nat → Int32))) :=
  if inb (l2 + 2) 2720 then
    if l6 < (texts_ (ix (l2 + 2))) then
      if inb (l3 + (2 * l6)) 2720 then
        bnd (texts_ (ix (l3 + (2 * l6))) : Int32) fun t6 =>
        if inb ((l3 + (2 * l6)) + 1) 2720 then
          bnd (texts_ (ix ((l3 + (2 * l6)) + 1)) : Int32) fun t8 =>
          if 1 < t6 then
            if t6 = 2 then
              if inb (l4 - 1) 330 then
                if inb (l4 - 1) 330 then
                  bnd (vp_updL values_ (ix (l4 - 1)) (-(values_ (ix (l4 - 1)))) : Nat → Int64) fun values_44 =>
                  some (.inl (l4, l5, l6 + 1, values_44, truth_))
                else none
              else none
            else
              if t6 < 10 then
                if inb ((l4 + (-1)) - 1) 330 then
                  if inb (l4 + (-1)) 330 then
                    (f_m_two t6 (values_ (ix ((l4 + (-1)) - 1))) (values_ (ix (l4 + (-1))))).bind (fun r38 =>
                    if inb ((l4 + (-1)) - 1) 330 then
                      bnd (vp_updL values_ (ix ((l4 + (-1)) - 1)) r38 : Nat → Int64) fun values_40 =>
                      some (.inl (l4 + (-1), l5, l6 + 1, values_40, truth_))
                    else none)
                  else none
                else none
              else
                if t6 < 20 then
                  if inb (l4 + (-2)) 330 then
                    if inb ((l4 + (-2)) + 1) 330 then
                      (f_m_isAsked t6 (values_ (ix (l4 + (-2)))) (values_ (ix ((l4 + (-2)) + 1)))).bind (fun r32 =>
                      if inb l5 330 then
                        bnd (upd truth_ (ix l5) (vp_nar .boolean r32) : Nat → Int32) fun truth_34 =>
                        some (.inl (l4 + (-2), l5 + 1, l6 + 1, values_, truth_34))
                      else none)
                    else none
                  else none
                else
                  if t6 = 20 then
                    if inb (l5 - 1) 330 then
                      if (truth_ (ix (l5 - 1))) = 0 then
                        if inb (l5 - 1) 330 then
                          bnd (upd truth_ (ix (l5 - 1)) 1 : Nat → Int32) fun truth_29 =>
                          some (.inl (l4, l5, l6 + 1, values_, truth_29))
                        else none
                      else
                        if inb (l5 - 1) 330 then
                          bnd (upd truth_ (ix (l5 - 1)) 0 : Nat → Int32) fun truth_27 =>
                          some (.inl (l4, l5, l6 + 1, values_, truth_27))
                        else none
                    else none
                  else
                    if t6 = 21 then
                      if inb ((l5 + (-1)) - 1) 330 then
                        if (truth_ (ix ((l5 + (-1)) - 1))) = 0 then
                          if inb ((l5 + (-1)) - 1) 330 then
                            bnd (upd truth_ (ix ((l5 + (-1)) - 1)) 0 : Nat → Int32) fun truth_19 =>
                            some (.inl (l4, l5 + (-1), l6 + 1, values_, truth_19))
                          else none
                        else
                          if inb (l5 + (-1)) 330 then
                            if (truth_ (ix (l5 + (-1)))) = 0 then
                              if inb ((l5 + (-1)) - 1) 330 then
                                bnd (upd truth_ (ix ((l5 + (-1)) - 1)) 0 : Nat → Int32) fun truth_22 =>
                                some (.inl (l4, l5 + (-1), l6 + 1, values_, truth_22))
                              else none
                            else
                              if inb ((l5 + (-1)) - 1) 330 then
                                bnd (upd truth_ (ix ((l5 + (-1)) - 1)) 1 : Nat → Int32) fun truth_24 =>
                                some (.inl (l4, l5 + (-1), l6 + 1, values_, truth_24))
                              else none
                          else none
                      else none
                    else
                      if inb ((l5 + (-1)) - 1) 330 then
                        if (truth_ (ix ((l5 + (-1)) - 1))) = 0 then
                          if inb (l5 + (-1)) 330 then
                            if (truth_ (ix (l5 + (-1)))) = 0 then
                              if inb ((l5 + (-1)) - 1) 330 then
                                bnd (upd truth_ (ix ((l5 + (-1)) - 1)) 0 : Nat → Int32) fun truth_14 =>
                                some (.inl (l4, l5 + (-1), l6 + 1, values_, truth_14))
                              else none
                            else
                              if inb ((l5 + (-1)) - 1) 330 then
                                bnd (upd truth_ (ix ((l5 + (-1)) - 1)) 1 : Nat → Int32) fun truth_16 =>
                                some (.inl (l4, l5 + (-1), l6 + 1, values_, truth_16))
                              else none
                          else none
                        else
                          if inb ((l5 + (-1)) - 1) 330 then
                            bnd (upd truth_ (ix ((l5 + (-1)) - 1)) 1 : Nat → Int32) fun truth_11 =>
                            some (.inl (l4, l5 + (-1), l6 + 1, values_, truth_11))
                          else none
                      else none
          else
            if t6 = 0 then
              if inb l4 330 then
                bnd (vp_updL values_ (ix l4) t8.toInt64 : Nat → Int64) fun values_49 =>
                some (.inl (l4 + 1, l5, l6 + 1, values_49, truth_))
              else none
            else
              if inb t8 8 then
                if inb l4 330 then
                  bnd (vp_updL values_ (ix l4) ((named_ (ix t8)).toInt64) : Nat → Int64) fun values_47 =>
                  some (.inl (l4 + 1, l5, l6 + 1, values_47, truth_))
                else none
              else none
        else none
      else none
    else
      some (.inr (values_, truth_))
  else none
def f_m_work (a_ : Nat → Int32) (texts_ : Nat → Int32) (named_ : Nat → Int32) (values_ : Nat → Int64) (truth_ : Nat → Int32) (l1 : Int32) : Option (((Nat → Int64) × (Nat → Int32))) :=
  bnd (((680 * (a_ 4)) + 1) + (3 * l1) : Int32) fun t1 =>
  bnd ((680 * (a_ 4)) + 70 : Int32) fun t2 =>
  if inb (t1 + 1) 2720 then
    (itr (un5 (fb_m_work_47 texts_ named_ t1 t2)) KF (0, 0, texts_ (ix (t1 + 1)), values_, truth_)).bind
      (un2 fun values_50 truth_51 =>
        some (values_50, truth_51)
      )
  else none
def fb_m_can_26 (a_ : Nat → Int32) (texts_ : Nat → Int32) (named_ : Nat → Int32) (l3 : Int32) (values_ : Nat → Int64) (truth_ : Nat → Int32) : Option ((Int32 × (Nat → Int64) × (Nat → Int32)) ⊕ (((Nat → Int64) × (Nat → Int32)) ⊕ ((Nat → Int64) × (Nat → Int32)))) :=
  (f_m_clauses a_ texts_).bind (fun r3 =>
  if l3 < r3 then
    (f_m_sortAt a_ texts_ l3).bind (fun r4 =>
    if r4 = 2 then
      (f_m_work a_ texts_ named_ values_ truth_ l3).bind (un2 fun values_5 truth_6 =>
      if (truth_6 0) = 0 then
        some (.inl (l3 + 1, values_5, truth_6))
      else
        some (.inr (.inl (values_5, truth_6))))
    else
      some (.inl (l3 + 1, values_, truth_)))
  else
    some (.inr (.inr ((values_, truth_)))))
def fj_m_can_18 (b_ : Int32) (a_ : Nat → Int32) (d_ : Nat → Int32) (texts_ : Nat → Int32) (named_ : Nat → Int32) (values_ : Nat → Int64) (truth_ : Nat → Int32) (l1 : Int32) (l2 : Int32) : Option ((Int32 × (Nat → Int32) × (Nat → Int64) × (Nat → Int32))) :=
  (f_m_nameAll b_ a_ d_ named_ l1 l2).bind (fun named_2 =>
  (itr (un3 (fb_m_can_26 a_ texts_ named_2)) KF (0, values_, truth_)).bind
    (Sum.elim
      (un2 fun values_10 truth_11 =>
        some (0, named_2, values_10, truth_11)
      )
      (un2 fun values_12 truth_13 =>
        some (1, named_2, values_12, truth_13)
      )
    ))
def f_m_can (b_ : Int32) (a_ : Nat → Int32) (d_ : Nat → Int32) (texts_ : Nat → Int32) (named_ : Nat → Int32) (values_ : Nat → Int64) (truth_ : Nat → Int32) (l1 : Int32) (l2 : Int32) : Option ((Int32 × (Nat → Int32) × (Nat → Int64) × (Nat → Int32))) :=
  (f_m_nameAt b_ d_ l1).bind (fun r1 =>
  if r1 < 0 then
    (f_m_hung b_ d_ l2).bind (fun r15 =>
    if r15 = 0 then
      some (0, named_, values_, truth_)
    else
      fj_m_can_18 b_ a_ d_ texts_ named_ values_ truth_ l1 l2)
  else
    fj_m_can_18 b_ a_ d_ texts_ named_ values_ truth_ l1 l2)
def fb_m_clauseOf_2 (a_ : Nat → Int32) (texts_ : Nat → Int32) (l1 : Int32) (l2 : Int32) : Option (Int32 ⊕ (Int32 ⊕ Unit)) :=
  (f_m_clauses a_ texts_).bind (fun r1 =>
  if l2 < r1 then
    (f_m_sortAt a_ texts_ l2).bind (fun r2 =>
    if r2 = l1 then
      some (.inr (.inl l2))
    else
      some (.inl (l2 + 1)))
  else
    some (.inr (.inr (()))))
def f_m_clauseOf (a_ : Nat → Int32) (texts_ : Nat → Int32) (l1 : Int32) : Option (Int32) :=
  (itr (fb_m_clauseOf_2 a_ texts_ l1) KF 0).bind
    (Sum.elim
      (fun l2_5 =>
        some l2_5
      )
      (fun _ =>
        some (-1)
      )
    )
def f_m_feeOf (b_ : Int32) (a_ : Nat → Int32) (d_ : Nat → Int32) (texts_ : Nat → Int32) (named_ : Nat → Int32) (values_ : Nat → Int64) (truth_ : Nat → Int32) (l1 : Int32) (l2 : Int32) : Option ((Int32 × (Nat → Int32) × (Nat → Int64) × (Nat → Int32))) :=
  (f_m_clauseOf a_ texts_ 1).bind (fun r1 =>
  if r1 < 0 then
    some (1, named_, values_, truth_)
  else
    (f_m_nameAll b_ a_ d_ named_ l1 l2).bind (fun named_2 =>
    (f_m_work a_ texts_ named_2 values_ truth_ r1).bind (un2 fun values_3 truth_4 =>
    (f_m_held (values_3 0) 0 999).bind (fun r5 =>
    some (r5, named_2, values_3, truth_4)))))
def f_m_leave (b_ : Int32) (d_ : Nat → Int32) (l1 : Int32) (l2 : Int32) : Option (Nat → Int32) :=
  (f_m_hung b_ d_ l2).bind (fun r1 =>
  (f_m_nameAt b_ d_ l1).bind (fun r2 =>
  if inb (((b_ + 11) + (8 * l2)) + r1) 560 then
    bnd (upd d_ (ix (((b_ + 11) + (8 * l2)) + r1)) r2 : Nat → Int32) fun d_4 =>
    if inb ((b_ + 8) + l2) 560 then
      if inb ((b_ + 8) + l2) 560 then
        bnd (upd d_4 (ix ((b_ + 8) + l2)) ((d_4 (ix ((b_ + 8) + l2))) + 1) : Nat → Int32) fun d_7 =>
        if inb (b_ + l1) 560 then
          bnd (upd d_7 (ix (b_ + l1)) (-1) : Nat → Int32) fun d_9 =>
          some d_9
        else none
      else none
    else none
  else none))
def f_m_draw (a_ : Nat → Int32) (l1 : Int32) : Option ((Int32 × (Nat → Int32))) :=
  if ¬ l1 = 0 then
    if ¬ (Int64.ofInt 30109) = 0 then
      bnd (upd a_ 8 ((rem64 ((((a_ 8).toInt64) * (Int64.ofInt 191)) + (Int64.ofInt 43)) (Int64.ofInt 30109)).toInt32) : Nat → Int32) fun a_3 =>
      some (rem32 (a_ 8) l1, a_3)
    else none
  else none
def f_m_heapAt (b_ : Int32) (d_ : Nat → Int32) (l1 : Int32) (l2 : Int32) : Option (Int32) :=
  if inb (((b_ + 11) + (8 * l1)) + l2) 560 then
    some (d_ (ix (((b_ + 11) + (8 * l1)) + l2)))
  else none
def fj_m_chosen_95_40 (b_ : Int32) (a_ : Nat → Int32) (d_ : Nat → Int32) (texts_ : Nat → Int32) (named_ : Nat → Int32) (values_ : Nat → Int64) (truth_ : Nat → Int32) (l1 : Int32) (l2 : Int32) (l3 : Int32) (l4 : Int32) (l5 : Int64) (l7 : Int32) (s0 : Int32) (s1 : Int32) : Option ((Int32 × Int64 × Int32 × (Nat → Int32) × (Nat → Int64) × (Nat → Int32)) ⊕ (Int32 × (Nat → Int32) × (Nat → Int64) × (Nat → Int32))) :=
  if inb s0 8 then
    bnd (upd named_ (ix s0) s1 : Nat → Int32) fun named_10 =>
    (f_m_work a_ texts_ named_10 values_ truth_ l3).bind (un2 fun values_11 truth_12 =>
    (f_m_hung b_ d_ l2).bind (fun r13 =>
    if l7 < (r13 - 1) then
      if 0 < (lg_cmp (values_11 0) l5) then
        some (.inl (l7, values_11 0, l7 + (-1), named_10, values_11, truth_12))
      else
        some (.inl (l4, l5, l7 + (-1), named_10, values_11, truth_12))
    else
      some (.inl (l7, values_11 0, l7 + (-1), named_10, values_11, truth_12))))
  else none
def fb_m_chosen_40 (b_ : Int32) (a_ : Nat → Int32) (d_ : Nat → Int32) (texts_ : Nat → Int32) (l1 : Int32) (l2 : Int32) (l3 : Int32) (l4 : Int32) (l5 : Int64) (l7 : Int32) (named_ : Nat → Int32) (values_ : Nat → Int64) (truth_ : Nat → Int32) : Option ((Int32 × Int64 × Int32 × (Nat → Int32) × (Nat → Int64) × (Nat → Int32)) ⊕ (Int32 × (Nat → Int32) × (Nat → Int64) × (Nat → Int32))) :=
  if l7 < 0 then
    some (.inr (l4, named_, values_, truth_))
  else
    bnd (upd named_ 0 l7 : Nat → Int32) fun named_5 =>
    (f_m_heapAt b_ d_ l2 l7).bind (fun r6 =>
    bnd (upd named_5 1 r6 : Nat → Int32) fun named_7 =>
    (f_m_isBorn a_ l1).bind (fun r8 =>
    if r8 = 0 then
      fj_m_chosen_95_40 b_ a_ d_ texts_ named_7 values_ truth_ l1 l2 l3 l4 l5 l7 2 0
    else
      (f_m_heapAt b_ d_ l2 l7).bind (fun r16 =>
      if r16 = l1 then
        fj_m_chosen_95_40 b_ a_ d_ texts_ named_7 values_ truth_ l1 l2 l3 l4 l5 l7 2 1
      else
        fj_m_chosen_95_40 b_ a_ d_ texts_ named_7 values_ truth_ l1 l2 l3 l4 l5 l7 2 0)))
def f_m_chosen (b_ : Int32) (a_ : Nat → Int32) (d_ : Nat → Int32) (texts_ : Nat → Int32) (named_ : Nat → Int32) (values_ : Nat → Int64) (truth_ : Nat → Int32) (l1 : Int32) (l2 : Int32) : Option ((Int32 × (Nat → Int32) × (Nat → Int64) × (Nat → Int32))) :=
  (f_m_clauseOf a_ texts_ 0).bind (fun r1 =>
  (f_m_hung b_ d_ l2).bind (fun r2 =>
  if r1 < 0 then
    some (r2 - 1, named_, values_, truth_)
  else
    (f_m_nameAll b_ a_ d_ named_ l1 l2).bind (fun named_3 =>
    (f_m_hung b_ d_ l2).bind (fun r4 =>
    (itr (un6 (fb_m_chosen_40 b_ a_ d_ texts_ l1 l2 r1)) KF (r2 - 1, 0, r4 - 1, named_3, values_, truth_)).bind
      (un4 fun l4_20 named_21 values_22 truth_23 =>
        some (l4_20, named_21, values_22, truth_23)
      )))))
def fb_m_come_20 (b_ : Int32) (l2 : Int32) (l4 : Int32) (d_ : Nat → Int32) : Option ((Int32 × (Nat → Int32)) ⊕ (Nat → Int32)) :=
  (f_m_hung b_ d_ l2).bind (fun r4 =>
  if (l4 + 1) < r4 then
    (f_m_heapAt b_ d_ l2 (l4 + 1)).bind (fun r5 =>
    if inb (((b_ + 11) + (8 * l2)) + l4) 560 then
      bnd (upd d_ (ix (((b_ + 11) + (8 * l2)) + l4)) r5 : Nat → Int32) fun d_7 =>
      some (.inl (l4 + 1, d_7))
    else none)
  else
    some (.inr d_))
def f_m_come (b_ : Int32) (d_ : Nat → Int32) (l1 : Int32) (l2 : Int32) (l3 : Int32) : Option (Nat → Int32) :=
  (f_m_heapAt b_ d_ l2 l3).bind (fun r1 =>
  if inb (b_ + l1) 560 then
    bnd (upd d_ (ix (b_ + l1)) r1 : Nat → Int32) fun d_3 =>
    (itr (un2 (fb_m_come_20 b_ l2)) KF (l3, d_3)).bind
      (fun d_10 =>
        if inb ((b_ + 8) + l2) 560 then
          if inb ((b_ + 8) + l2) 560 then
            bnd (upd d_10 (ix ((b_ + 8) + l2)) ((d_10 (ix ((b_ + 8) + l2))) - 1) : Nat → Int32) fun d_13 =>
            some d_13
          else none
        else none
      )
  else none)
def fj_m_go_117 (b_ : Int32) (a_ : Nat → Int32) (d_ : Nat → Int32) (named_ : Nat → Int32) (values_ : Nat → Int64) (truth_ : Nat → Int32) (l1 : Int32) (l3 : Int32) : Option ((Int32 × (Nat → Int32) × (Nat → Int32) × (Nat → Int32) × (Nat → Int64) × (Nat → Int32))) :=
  if l3 < 0 then
    (f_m_nameAt b_ d_ l1).bind (fun r24 =>
    some (r24, a_, d_, named_, values_, truth_))
  else
    some (l3, a_, d_, named_, values_, truth_)
def fj_m_go_114 (b_ : Int32) (a_ : Nat → Int32) (d_ : Nat → Int32) (named_ : Nat → Int32) (values_ : Nat → Int64) (truth_ : Nat → Int32) (l1 : Int32) (l3 : Int32) (s0 : Int32) (s1 : Int32) (s2 : Int32) : Option ((Int32 × (Nat → Int32) × (Nat → Int32) × (Nat → Int32) × (Nat → Int64) × (Nat → Int32))) :=
  (f_m_come b_ d_ s0 s1 s2).bind (fun d_23 =>
  fj_m_go_117 b_ a_ d_23 named_ values_ truth_ l1 l3)
def f_m_go (b_ : Int32) (a_ : Nat → Int32) (d_ : Nat → Int32) (texts_ : Nat → Int32) (named_ : Nat → Int32) (values_ : Nat → Int64) (truth_ : Nat → Int32) (l1 : Int32) (l2 : Int32) : Option ((Int32 × (Nat → Int32) × (Nat → Int32) × (Nat → Int32) × (Nat → Int64) × (Nat → Int32))) :=
  (f_m_isPerson a_ l1).bind (fun r1 =>
  if r1 = 0 then
    some ((-1), a_, d_, named_, values_, truth_)
  else
    (f_m_isGate a_ l2).bind (fun r2 =>
    if r2 = 0 then
      some ((-1), a_, d_, named_, values_, truth_)
    else
      (f_m_can b_ a_ d_ texts_ named_ values_ truth_ l1 l2).bind (un4 fun r3 named_4 values_5 truth_6 =>
      if r3 = 0 then
        some ((-1), a_, d_, named_4, values_5, truth_6)
      else
        if inb ((10 + (3 * l1)) + 1) 145 then
          (f_m_feeOf b_ a_ d_ texts_ named_4 values_5 truth_6 l1 l2).bind (un4 fun r8 named_9 values_10 truth_11 =>
          if inb ((10 + (3 * l1)) + 1) 145 then
            bnd (upd a_ (ix ((10 + (3 * l1)) + 1)) ((a_ (ix ((10 + (3 * l1)) + 1))) + r8) : Nat → Int32) fun a_13 =>
            if inb ((10 + (3 * l1)) + 2) 145 then
              if inb ((10 + (3 * l1)) + 2) 145 then
                bnd (upd a_13 (ix ((10 + (3 * l1)) + 2)) ((a_13 (ix ((10 + (3 * l1)) + 2))) + 1) : Nat → Int32) fun a_16 =>
                (f_m_nameAt b_ d_ l1).bind (fun r17 =>
                if r17 < 0 then
                  (f_m_isLot a_16 l2).bind (fun r18 =>
                  if r18 = 0 then
                    (f_m_chosen b_ a_16 d_ texts_ named_9 values_10 truth_11 l1 l2).bind (un4 fun r19 named_20 values_21 truth_22 =>
                    fj_m_go_114 b_ a_16 d_ named_20 values_21 truth_22 l1 r17 l1 l2 r19)
                  else
                    (f_m_hung b_ d_ l2).bind (fun r28 =>
                    (f_m_draw a_16 r28).bind (un2 fun r29 a_30 =>
                    fj_m_go_114 b_ a_30 d_ named_9 values_10 truth_11 l1 r17 l1 l2 r29)))
                else
                  (f_m_leave b_ d_ l1 l2).bind (fun d_34 =>
                  fj_m_go_117 b_ a_16 d_34 named_9 values_10 truth_11 l1 r17))
              else none
            else none
          else none)
        else none)))
def fb_m_gone_22 (b_ : Int32) (texts_ : Nat → Int32) (l1 : Int32) (l2 : Int32) (l3 : Int32) (a_ : Nat → Int32) (d_ : Nat → Int32) (named_ : Nat → Int32) (values_ : Nat → Int64) (truth_ : Nat → Int32) : Option ((Int32 × Int32 × (Nat → Int32) × (Nat → Int32) × (Nat → Int32) × (Nat → Int64) × (Nat → Int32)) ⊕ (Int32 × (Nat → Int32) × (Nat → Int32) × (Nat → Int32) × (Nat → Int64) × (Nat → Int32))) :=
  if inb (680 * l1) 2720 then
    if l3 < (texts_ (ix (680 * l1))) then
      bnd (((680 * l1) + 1) + (3 * l3) : Int32) fun t3 =>
      if inb t3 2720 then
        if (texts_ (ix t3)) = 3 then
          if inb (t3 + 1) 2720 then
            if inb (t3 + 2) 2720 then
              (f_m_go b_ a_ d_ texts_ named_ values_ truth_ (texts_ (ix (t3 + 1))) (texts_ (ix (t3 + 2)))).bind (un6 fun r7 a_8 d_9 named_10 values_11 truth_12 =>
              if r7 < 0 then
                some (.inl (l2, l3 + 1, a_8, d_9, named_10, values_11, truth_12))
              else
                some (.inl (l2 + 1, l3 + 1, a_8, d_9, named_10, values_11, truth_12)))
            else none
          else none
        else
          some (.inl (l2, l3 + 1, a_, d_, named_, values_, truth_))
      else none
    else
      some (.inr (l2, a_, d_, named_, values_, truth_))
  else none
def f_m_gone (b_ : Int32) (a_ : Nat → Int32) (d_ : Nat → Int32) (texts_ : Nat → Int32) (named_ : Nat → Int32) (values_ : Nat → Int64) (truth_ : Nat → Int32) (l1 : Int32) : Option ((Int32 × (Nat → Int32) × (Nat → Int32) × (Nat → Int32) × (Nat → Int64) × (Nat → Int32))) :=
  (f_m_isIn l1 0 ((a_ 3) - 1)).bind (fun r1 =>
  if r1 = 0 then
    some ((-1), a_, d_, named_, values_, truth_)
  else
    (itr (un7 (fb_m_gone_22 b_ texts_ l1)) KF (0, 0, a_, d_, named_, values_, truth_)).bind
      (un6 fun l2_14 a_15 d_16 named_17 values_18 truth_19 =>
        some (l2_14, a_15, d_16, named_17, values_18, truth_19)
      ))
def fj_m_goes_16 (b_ : Int32) (a_ : Nat → Int32) (d_ : Nat → Int32) (texts_ : Nat → Int32) (named_ : Nat → Int32) (values_ : Nat → Int64) (truth_ : Nat → Int32) (l1 : Int32) (l2 : Int32) : Option ((Int32 × (Nat → Int32) × (Nat → Int32) × (Nat → Int64) × (Nat → Int32))) :=
  (f_m_can b_ a_ d_ texts_ named_ values_ truth_ l1 l2).bind (un4 fun r2 named_3 values_4 truth_5 =>
  if r2 = 0 then
    some (0, d_, named_3, values_4, truth_5)
  else
    (f_m_nameAt b_ d_ l1).bind (fun r6 =>
    if r6 < 0 then
      (f_m_chosen b_ a_ d_ texts_ named_3 values_4 truth_5 l1 l2).bind (un4 fun r7 named_8 values_9 truth_10 =>
      (f_m_come b_ d_ l1 l2 r7).bind (fun d_11 =>
      some (1, d_11, named_8, values_9, truth_10)))
    else
      (f_m_leave b_ d_ l1 l2).bind (fun d_14 =>
      some (1, d_14, named_3, values_4, truth_5))))
def f_m_goes (b_ : Int32) (a_ : Nat → Int32) (d_ : Nat → Int32) (texts_ : Nat → Int32) (named_ : Nat → Int32) (values_ : Nat → Int64) (truth_ : Nat → Int32) (l1 : Int32) (l2 : Int32) : Option ((Int32 × (Nat → Int32) × (Nat → Int32) × (Nat → Int64) × (Nat → Int32))) :=
  (f_m_nameAt b_ d_ l1).bind (fun r1 =>
  if r1 < 0 then
    (f_m_isLot a_ l2).bind (fun r18 =>
    if r18 = 0 then
      fj_m_goes_16 b_ a_ d_ texts_ named_ values_ truth_ l1 l2
    else
      some (0, d_, named_, values_, truth_))
  else
    fj_m_goes_16 b_ a_ d_ texts_ named_ values_ truth_ l1 l2)
def fb_m_owesOf_4 (a_ : Nat → Int32) (l1 : Int32) (l2 : Int32) (l3 : Int32) : Option ((Int32 × Int32) ⊕ Int32) :=
  if l3 < (a_ 5) then
    if inb (40 + (3 * l3)) 145 then
      if (a_ (ix (40 + (3 * l3)))) = l1 then
        if inb ((40 + (3 * l3)) + 1) 145 then
          bnd (l2 + (a_ (ix ((40 + (3 * l3)) + 1))) : Int32) fun t3 =>
          some (.inl (t3, l3 + 1))
        else none
      else
        some (.inl (l2 + 0, l3 + 1))
    else none
  else
    some (.inr l2)
def f_m_owesOf (a_ : Nat → Int32) (l1 : Int32) : Option (Int32) :=
  (itr (un2 (fb_m_owesOf_4 a_ l1)) KF (0, 0)).bind
    (fun l2_4 =>
      some l2_4
    )
def fb_m_didOf_4 (a_ : Nat → Int32) (l1 : Int32) (l2 : Int32) (l3 : Int32) : Option ((Int32 × Int32) ⊕ Int32) :=
  if l3 < (a_ 5) then
    if inb ((40 + (3 * l3)) + 2) 145 then
      if (a_ (ix ((40 + (3 * l3)) + 2))) = l1 then
        if inb ((40 + (3 * l3)) + 1) 145 then
          bnd (l2 + (a_ (ix ((40 + (3 * l3)) + 1))) : Int32) fun t3 =>
          some (.inl (t3, l3 + 1))
        else none
      else
        some (.inl (l2 + 0, l3 + 1))
    else none
  else
    some (.inr l2)
def f_m_didOf (a_ : Nat → Int32) (l1 : Int32) : Option (Int32) :=
  (itr (un2 (fb_m_didOf_4 a_ l1)) KF (0, 0)).bind
    (fun l2_4 =>
      some l2_4
    )
def f_m_of (a_ : Nat → Int32) (d_ : Nat → Int32) (l1 : Int32) (l2 : Int32) : Option (Int32) :=
  (f_m_isPerson a_ l1).bind (fun r1 =>
  if r1 = 0 then
    some (-2)
  else
    if l2 = 0 then
      if inb l1 560 then
        some (d_ (ix l1))
      else none
    else
      if l2 = 1 then
        if inb ((10 + (3 * l1)) + 1) 145 then
          some (a_ (ix ((10 + (3 * l1)) + 1)))
        else none
      else
        if l2 = 2 then
          if inb ((10 + (3 * l1)) + 2) 145 then
            some (a_ (ix ((10 + (3 * l1)) + 2)))
          else none
        else
          if l2 = 3 then
            if inb l1 560 then
              if (d_ (ix l1)) < 0 then
                some 0
              else
                if inb l1 560 then
                  (f_m_owesOf a_ (d_ (ix l1))).bind (fun r7 =>
                  some r7)
                else none
            else none
          else
            if l2 = 4 then
              (f_m_didOf a_ l1).bind (fun r3 =>
              some r3)
            else
              if l2 = 5 then
                if inb (10 + (3 * l1)) 145 then
                  some (a_ (ix (10 + (3 * l1))))
                else none
              else
                some (-2))
def fb_m_holder_2 (b_ : Int32) (a_ : Nat → Int32) (d_ : Nat → Int32) (l1 : Int32) (l2 : Int32) : Option (Int32 ⊕ (Int32 ⊕ Unit)) :=
  if l2 < (a_ 0) then
    if l1 < 0 then
      some (.inl (l2 + 1))
    else
      (f_m_nameAt b_ d_ l2).bind (fun r1 =>
      if r1 = l1 then
        some (.inr (.inl l2))
      else
        some (.inl (l2 + 1)))
  else
    some (.inr (.inr (())))
def f_m_holder (b_ : Int32) (a_ : Nat → Int32) (d_ : Nat → Int32) (l1 : Int32) : Option (Int32) :=
  (itr (fb_m_holder_2 b_ a_ d_ l1) KF 0).bind
    (Sum.elim
      (fun l2_3 =>
        some l2_3
      )
      (fun _ =>
        some (-1)
      )
    )
def f_m_called (b_ : Int32) (a_ : Nat → Int32) (d_ : Nat → Int32) (l1 : Int32) : Option (Int32) :=
  (f_m_isIn l1 0 7).bind (fun r1 =>
  if r1 = 0 then
    some (-1)
  else
    (f_m_holder b_ a_ d_ l1).bind (fun r2 =>
    some r2))
def f_m_heap (a_ : Nat → Int32) (d_ : Nat → Int32) (l1 : Int32) (l2 : Int32) : Option (Int32) :=
  (f_m_isGate a_ l1).bind (fun r1 =>
  if r1 = 0 then
    some (-1)
  else
    if l2 = (-1) then
      if inb (8 + l1) 560 then
        some (d_ (ix (8 + l1)))
      else none
    else
      if inb (8 + l1) 560 then
        (f_m_isIn l2 0 ((d_ (ix (8 + l1))) - 1)).bind (fun r3 =>
        if r3 = 0 then
          some (-1)
        else
          if inb ((11 + (8 * l1)) + l2) 560 then
            some (d_ (ix ((11 + (8 * l1)) + l2)))
          else none)
      else none)
def f_m_deed (b_ : Int32) (a_ : Nat → Int32) (d_ : Nat → Int32) (l1 : Int32) (l2 : Int32) : Option ((Int32 × (Nat → Int32))) :=
  (f_m_isIn l1 0 7).bind (fun r1 =>
  if r1 = 0 then
    some ((-1), a_)
  else
    (f_m_isIn l2 1 999).bind (fun r2 =>
    if r2 = 0 then
      some ((-1), a_)
    else
      (f_m_holder b_ a_ d_ l1).bind (fun r3 =>
      if r3 < 0 then
        some ((-1), a_)
      else
        if (a_ 5) = 20 then
          some ((-1), a_)
        else
          bnd (40 + (3 * (a_ 5)) : Int32) fun t4 =>
          if inb t4 145 then
            bnd (upd a_ (ix t4) l1 : Nat → Int32) fun a_6 =>
            if inb (t4 + 1) 145 then
              bnd (upd a_6 (ix (t4 + 1)) l2 : Nat → Int32) fun a_8 =>
              (f_m_holder b_ a_8 d_ l1).bind (fun r9 =>
              if inb (t4 + 2) 145 then
                bnd (upd a_8 (ix (t4 + 2)) r9 : Nat → Int32) fun a_11 =>
                bnd (upd a_11 5 ((a_11 5) + 1) : Nat → Int32) fun a_12 =>
                some (a_12 5, a_12)
              else none)
            else none
          else none)))
def f_m_owes (a_ : Nat → Int32) (l1 : Int32) : Option (Int32) :=
  (f_m_isIn l1 0 7).bind (fun r1 =>
  if r1 = 0 then
    some (-1)
  else
    (f_m_owesOf a_ l1).bind (fun r2 =>
    some r2))
def f_m_row (a_ : Nat → Int32) (l1 : Int32) (l2 : Int32) : Option ((Int32 × (Nat → Int32))) :=
  if l1 = (-1) then
    bnd (upd a_ 6 0 : Nat → Int32) fun a_10 =>
    some (0, a_10)
  else
    (f_m_isPerson a_ l1).bind (fun r1 =>
    if r1 = 0 then
      some ((-1), a_)
    else
      (f_m_isGate a_ l2).bind (fun r2 =>
      if r2 = 0 then
        some ((-1), a_)
      else
        if (a_ 6) = 12 then
          some ((-1), a_)
        else
          if inb (100 + (2 * (a_ 6))) 145 then
            bnd (upd a_ (ix (100 + (2 * (a_ 6)))) l1 : Nat → Int32) fun a_4 =>
            if inb ((100 + (2 * (a_4 6))) + 1) 145 then
              bnd (upd a_4 (ix ((100 + (2 * (a_4 6))) + 1)) l2 : Nat → Int32) fun a_6 =>
              bnd (upd a_6 6 ((a_6 6) + 1) : Nat → Int32) fun a_7 =>
              some (a_7 6, a_7)
            else none
          else none))
def fb_m_doRow_13 (b_ : Int32) (a_ : Nat → Int32) (texts_ : Nat → Int32) (l1 : Int32) (d_ : Nat → Int32) (named_ : Nat → Int32) (values_ : Nat → Int64) (truth_ : Nat → Int32) : Option ((Int32 × (Nat → Int32) × (Nat → Int32) × (Nat → Int64) × (Nat → Int32)) ⊕ ((Int32 × (Nat → Int32) × (Nat → Int32) × (Nat → Int64) × (Nat → Int32)) ⊕ ((Nat → Int32) × (Nat → Int32) × (Nat → Int64) × (Nat → Int32)))) :=
  if l1 < (a_ 6) then
    if inb (100 + (2 * l1)) 145 then
      if inb ((100 + (2 * l1)) + 1) 145 then
        (f_m_goes b_ a_ d_ texts_ named_ values_ truth_ (a_ (ix (100 + (2 * l1)))) (a_ (ix ((100 + (2 * l1)) + 1)))).bind (un5 fun r5 d_6 named_7 values_8 truth_9 =>
        if r5 = 0 then
          some (.inr (.inl (l1, d_6, named_7, values_8, truth_9)))
        else
          some (.inl (l1 + 1, d_6, named_7, values_8, truth_9)))
      else none
    else none
  else
    some (.inr (.inr ((d_, named_, values_, truth_))))
def f_m_doRow (b_ : Int32) (a_ : Nat → Int32) (d_ : Nat → Int32) (texts_ : Nat → Int32) (named_ : Nat → Int32) (values_ : Nat → Int64) (truth_ : Nat → Int32) : Option ((Int32 × Int32 × (Nat → Int32) × (Nat → Int32) × (Nat → Int64) × (Nat → Int32))) :=
  (f_m_copy d_ 0 2).bind (fun d_1 =>
  (f_m_tries b_ 2).bind (fun b_2 =>
  (itr (un5 (fb_m_doRow_13 b_2 a_ texts_)) KF (0, d_1, named_, values_, truth_)).bind
    (Sum.elim
      (un5 fun l1_11 d_12 named_13 values_14 truth_15 =>
        some (l1_11, b_2, d_12, named_13, values_14, truth_15)
      )
      (un4 fun d_16 named_17 values_18 truth_19 =>
        some ((-1), b_2, d_16, named_17, values_18, truth_19)
      )
    )))
def f_m_judge (b_ : Int32) (a_ : Nat → Int32) (d_ : Nat → Int32) (texts_ : Nat → Int32) (named_ : Nat → Int32) (values_ : Nat → Int64) (truth_ : Nat → Int32) : Option ((Int32 × Int32 × (Nat → Int32) × (Nat → Int32) × (Nat → Int64) × (Nat → Int32))) :=
  (f_m_doRow b_ a_ d_ texts_ named_ values_ truth_).bind (un6 fun r1 b_2 d_3 named_4 values_5 truth_6 =>
  (f_m_tries b_2 0).bind (fun b_7 =>
  some (r1, b_7, d_3, named_4, values_5, truth_6)))
def fj_m_then_28 (b_ : Int32) (d_ : Nat → Int32) (named_ : Nat → Int32) (values_ : Nat → Int64) (truth_ : Nat → Int32) (s0 : Int32) : Option ((Int32 × Int32 × (Nat → Int32) × (Nat → Int32) × (Nat → Int64) × (Nat → Int32))) :=
  (f_m_tries b_ 0).bind (fun b_9 =>
  some (s0, b_9, d_, named_, values_, truth_))
def f_m_then (b_ : Int32) (a_ : Nat → Int32) (d_ : Nat → Int32) (texts_ : Nat → Int32) (named_ : Nat → Int32) (values_ : Nat → Int64) (truth_ : Nat → Int32) (l1 : Int32) : Option ((Int32 × Int32 × (Nat → Int32) × (Nat → Int32) × (Nat → Int64) × (Nat → Int32))) :=
  (f_m_isPerson a_ l1).bind (fun r1 =>
  if r1 = 0 then
    some ((-2), b_, d_, named_, values_, truth_)
  else
    (f_m_doRow b_ a_ d_ texts_ named_ values_ truth_).bind (un6 fun r2 b_3 d_4 named_5 values_6 truth_7 =>
    if r2 < 0 then
      (f_m_nameAt b_3 d_4 l1).bind (fun r8 =>
      fj_m_then_28 b_3 d_4 named_5 values_6 truth_7 r8)
    else
      fj_m_then_28 b_3 d_4 named_5 values_6 truth_7 (-2)))
def fb_m_common_6 (l4 : Int64) (l6 : Int64) : Option ((Int64 × Int64) ⊕ Int64) :=
  if (lg_cmp l6 0) = 0 then
    some (.inr l4)
  else
    if ¬ l6 = 0 then
      some (.inl (l6, rem64 l4 l6))
    else none
def f_m_common (l0 : Int64) (l2 : Int64) : Option (Int64) :=
  (itr (un2 fb_m_common_6) KF (l0, l2)).bind
    (fun l4_2 =>
      some l4_2
    )
def f_m_add (upper_ : Int64) (under_ : Int64) (l1 : Int64) : Option ((Int64 × Int64)) :=
  (f_m_common under_ l1).bind (fun r1 =>
  if ¬ r1 = 0 then
    if ¬ r1 = 0 then
      bnd ((upper_ * (l1 / r1)) + (under_ / r1) : Int64) fun upper_4 =>
      if ¬ r1 = 0 then
        (f_m_common upper_4 ((under_ / r1) * l1)).bind (fun r6 =>
        if ¬ r6 = 0 then
          if ¬ r6 = 0 then
            bnd (((under_ / r1) * l1) / r6 : Int64) fun under_9 =>
            some (upper_4 / r6, under_9)
          else none
        else none)
      else none
    else none
  else none)
def fj_m_stepOn_139 (b_ : Int32) (a_ : Nat → Int32) (d_ : Nat → Int32) (texts_ : Nat → Int32) (named_ : Nat → Int32) (values_ : Nat → Int64) (truth_ : Nat → Int32) (lots_ : Nat → Int32) (shares_ : Nat → Int64) (l1 : Int32) (l2 : Int32) (l3 : Int32) : Option ((Int32 × Int32 × (Nat → Int32) × (Nat → Int32) × (Nat → Int64) × (Nat → Int32) × (Nat → Int32) × (Nat → Int64))) :=
  if inb l1 13 then
    if 0 < (lots_ (ix l1)) then
      some (0, b_, d_, named_, values_, truth_, lots_, shares_)
    else
      (f_m_goes b_ a_ d_ texts_ named_ values_ truth_ l2 l3).bind (un5 fun r15 d_16 named_17 values_18 truth_19 =>
      some (1, b_, d_16, named_17, values_18, truth_19, lots_, shares_))
  else none
def f_m_stepOn (b_ : Int32) (a_ : Nat → Int32) (d_ : Nat → Int32) (texts_ : Nat → Int32) (named_ : Nat → Int32) (values_ : Nat → Int64) (truth_ : Nat → Int32) (lots_ : Nat → Int32) (shares_ : Nat → Int64) (l1 : Int32) : Option ((Int32 × Int32 × (Nat → Int32) × (Nat → Int32) × (Nat → Int64) × (Nat → Int32) × (Nat → Int32) × (Nat → Int64))) :=
  if inb (100 + (2 * l1)) 145 then
    bnd (a_ (ix (100 + (2 * l1))) : Int32) fun t2 =>
    if inb ((100 + (2 * l1)) + 1) 145 then
      bnd (a_ (ix ((100 + (2 * l1)) + 1)) : Int32) fun t4 =>
      (f_m_copy d_ (2 + l1) (3 + l1)).bind (fun d_5 =>
      (f_m_tries b_ (3 + l1)).bind (fun b_6 =>
      if inb l1 13 then
        if inb (l1 + 1) 13 then
          bnd (vp_updL shares_ (ix (l1 + 1)) (shares_ (ix l1)) : Nat → Int64) fun shares_9 =>
          if inb l1 13 then
            if inb l1 13 then
              bnd (upd lots_ (ix l1) ((lots_ (ix l1)) + 1) : Nat → Int32) fun lots_12 =>
              (f_m_nameAt b_6 d_5 t2).bind (fun r13 =>
              if r13 < 0 then
                (f_m_isLot a_ t4).bind (fun r21 =>
                if r21 = 0 then
                  fj_m_stepOn_139 b_6 a_ d_5 texts_ named_ values_ truth_ lots_12 shares_9 l1 t2 t4
                else
                  (f_m_can b_6 a_ d_5 texts_ named_ values_ truth_ t2 t4).bind (un4 fun r22 named_23 values_24 truth_25 =>
                  if r22 = 0 then
                    fj_m_stepOn_139 b_6 a_ d_5 texts_ named_23 values_24 truth_25 lots_12 shares_9 l1 t2 t4
                  else
                    if inb l1 13 then
                      (f_m_hung b_6 d_5 t4).bind (fun r27 =>
                      if (lots_12 (ix l1)) < r27 then
                        if inb (l1 + 1) 13 then
                          (f_m_hung b_6 d_5 t4).bind (fun r29 =>
                          if inb (l1 + 1) 13 then
                            bnd (vp_updL shares_9 (ix (l1 + 1)) ((shares_9 (ix (l1 + 1))) * r29.toInt64) : Nat → Int64) fun shares_31 =>
                            if inb l1 13 then
                              (f_m_come b_6 d_5 t2 t4 (lots_12 (ix l1))).bind (fun d_33 =>
                              some (1, b_6, d_33, named_23, values_24, truth_25, lots_12, shares_31))
                            else none
                          else none)
                        else none
                      else
                        some (0, b_6, d_5, named_23, values_24, truth_25, lots_12, shares_9))
                    else none))
              else
                fj_m_stepOn_139 b_6 a_ d_5 texts_ named_ values_ truth_ lots_12 shares_9 l1 t2 t4)
            else none
          else none
        else none
      else none))
    else none
  else none
def fb_m_lotMany_4 (a_ : Nat → Int32) (l1 : Int32) (l2 : Int32) : Option ((Int32 × Int32) ⊕ Int32) :=
  if l2 < (a_ 6) then
    if inb ((100 + (2 * l2)) + 1) 145 then
      if inb (36 + (a_ (ix ((100 + (2 * l2)) + 1)))) 145 then
        bnd (l1 + (a_ (ix (36 + (a_ (ix ((100 + (2 * l2)) + 1)))))) : Int32) fun t3 =>
        some (.inl (t3, l2 + 1))
      else none
    else none
  else
    some (.inr l1)
def f_m_lotMany (a_ : Nat → Int32) : Option (Int32) :=
  (itr (un2 (fb_m_lotMany_4 a_)) KF (0, 0)).bind
    (fun l1_4 =>
      some l1_4
    )
def fb_m_chance_73 (a_ : Nat → Int32) (texts_ : Nat → Int32) (l1 : Int32) (l2 : Int32) (l4 : Int32) (b_ : Int32) (upper_ : Int64) (under_ : Int64) (d_ : Nat → Int32) (named_ : Nat → Int32) (values_ : Nat → Int64) (truth_ : Nat → Int32) (lots_ : Nat → Int32) (shares_ : Nat → Int64) : Option ((Int32 × Int32 × Int64 × Int64 × (Nat → Int32) × (Nat → Int32) × (Nat → Int64) × (Nat → Int32) × (Nat → Int32) × (Nat → Int64)) ⊕ (Int32 × Int64 × Int64 × (Nat → Int32) × (Nat → Int32) × (Nat → Int64) × (Nat → Int32) × (Nat → Int32) × (Nat → Int64))) :=
  if l4 < 0 then
    some (.inr (b_, upper_, under_, d_, named_, values_, truth_, lots_, shares_))
  else
    if l4 = (a_ 6) then
      (f_m_tries b_ (2 + l4)).bind (fun b_29 =>
      (f_m_nameAt b_29 d_ l1).bind (fun r30 =>
      if r30 = l2 then
        if inb l4 13 then
          (f_m_add upper_ under_ (shares_ (ix l4))).bind (un2 fun upper_32 under_33 =>
          some (.inl (l4 + (-1), b_29, upper_32, under_33, d_, named_, values_, truth_, lots_, shares_)))
        else none
      else
        some (.inl (l4 + (-1), b_29, upper_, under_, d_, named_, values_, truth_, lots_, shares_))))
    else
      (f_m_stepOn b_ a_ d_ texts_ named_ values_ truth_ lots_ shares_ l4).bind (un8 fun r18 b_19 d_20 named_21 values_22 truth_23 lots_24 shares_25 =>
      if r18 = 0 then
        some (.inl (l4 + (-1), b_19, upper_, under_, d_20, named_21, values_22, truth_23, lots_24, shares_25))
      else
        if inb (l4 + 1) 13 then
          bnd (upd lots_24 (ix (l4 + 1)) (-1) : Nat → Int32) fun lots_27 =>
          some (.inl (l4 + 1, b_19, upper_, under_, d_20, named_21, values_22, truth_23, lots_27, shares_25))
        else none)
def f_m_chance (b_ : Int32) (upper_ : Int64) (under_ : Int64) (a_ : Nat → Int32) (d_ : Nat → Int32) (texts_ : Nat → Int32) (named_ : Nat → Int32) (values_ : Nat → Int64) (truth_ : Nat → Int32) (lots_ : Nat → Int32) (shares_ : Nat → Int64) (l1 : Int32) (l2 : Int32) (l3 : Int32) : Option ((Int64 × Int32 × Int64 × Int64 × (Nat → Int32) × (Nat → Int32) × (Nat → Int64) × (Nat → Int32) × (Nat → Int32) × (Nat → Int64))) :=
  (f_m_isPerson a_ l1).bind (fun r1 =>
  if r1 = 0 then
    some (Int64.ofInt (-1), b_, upper_, under_, d_, named_, values_, truth_, lots_, shares_)
  else
    (f_m_isIn l2 (-1) 7).bind (fun r2 =>
    if r2 = 0 then
      some (Int64.ofInt (-1), b_, upper_, under_, d_, named_, values_, truth_, lots_, shares_)
    else
      (f_m_isIn l3 0 1).bind (fun r3 =>
      if r3 = 0 then
        some (Int64.ofInt (-1), b_, upper_, under_, d_, named_, values_, truth_, lots_, shares_)
      else
        (f_m_lotMany a_).bind (fun r4 =>
        if 6 < r4 then
          some (Int64.ofInt (-1), b_, upper_, under_, d_, named_, values_, truth_, lots_, shares_)
        else
          (f_m_copy d_ 0 2).bind (fun d_5 =>
          bnd (vp_updL shares_ 0 1 : Nat → Int64) fun shares_6 =>
          bnd (upd lots_ 0 (-1) : Nat → Int32) fun lots_7 =>
          if (0 : Int32) < 0 then
            (f_m_tries b_ 0).bind (fun b_8 =>
            if l3 = 0 then
              some (0, b_8, 0, 1, d_5, named_, values_, truth_, lots_7, shares_6)
            else
              some (1, b_8, 0, 1, d_5, named_, values_, truth_, lots_7, shares_6))
          else
            if 0 = (a_ 6) then
              (f_m_tries b_ (2 + 0)).bind (fun b_62 =>
              (f_m_nameAt b_62 d_5 l1).bind (fun r63 =>
              if r63 = l2 then
                (f_m_add 0 1 (shares_6 0)).bind (un2 fun upper_75 under_76 =>
                (itr (un10 (fb_m_chance_73 a_ texts_ l1 l2)) KF (0 + (-1), b_62, upper_75, under_76, d_5, named_, values_, truth_, lots_7, shares_6)).bind
                  (un9 fun b_77 upper_78 under_79 d_80 named_81 values_82 truth_83 lots_84 shares_85 =>
                    (f_m_tries b_77 0).bind (fun b_86 =>
                    if l3 = 0 then
                      some (upper_78, b_86, upper_78, under_79, d_80, named_81, values_82, truth_83, lots_84, shares_85)
                    else
                      some (under_79, b_86, upper_78, under_79, d_80, named_81, values_82, truth_83, lots_84, shares_85))
                  ))
              else
                (itr (un10 (fb_m_chance_73 a_ texts_ l1 l2)) KF (0 + (-1), b_62, 0, 1, d_5, named_, values_, truth_, lots_7, shares_6)).bind
                  (un9 fun b_64 upper_65 under_66 d_67 named_68 values_69 truth_70 lots_71 shares_72 =>
                    (f_m_tries b_64 0).bind (fun b_73 =>
                    if l3 = 0 then
                      some (upper_65, b_73, upper_65, under_66, d_67, named_68, values_69, truth_70, lots_71, shares_72)
                    else
                      some (under_66, b_73, upper_65, under_66, d_67, named_68, values_69, truth_70, lots_71, shares_72))
                  )))
            else
              (f_m_stepOn b_ a_ d_5 texts_ named_ values_ truth_ lots_7 shares_6 0).bind (un8 fun r10 b_11 d_12 named_13 values_14 truth_15 lots_16 shares_17 =>
              if r10 = 0 then
                (itr (un10 (fb_m_chance_73 a_ texts_ l1 l2)) KF (0 + (-1), b_11, 0, 1, d_12, named_13, values_14, truth_15, lots_16, shares_17)).bind
                  (un9 fun b_37 upper_38 under_39 d_40 named_41 values_42 truth_43 lots_44 shares_45 =>
                    (f_m_tries b_37 0).bind (fun b_46 =>
                    if l3 = 0 then
                      some (upper_38, b_46, upper_38, under_39, d_40, named_41, values_42, truth_43, lots_44, shares_45)
                    else
                      some (under_39, b_46, upper_38, under_39, d_40, named_41, values_42, truth_43, lots_44, shares_45))
                  )
              else
                if inb (0 + 1) 13 then
                  bnd (upd lots_16 (ix (0 + 1)) (-1) : Nat → Int32) fun lots_49 =>
                  (itr (un10 (fb_m_chance_73 a_ texts_ l1 l2)) KF (0 + 1, b_11, 0, 1, d_12, named_13, values_14, truth_15, lots_49, shares_17)).bind
                    (un9 fun b_50 upper_51 under_52 d_53 named_54 values_55 truth_56 lots_57 shares_58 =>
                      (f_m_tries b_50 0).bind (fun b_59 =>
                      if l3 = 0 then
                        some (upper_51, b_59, upper_51, under_52, d_53, named_54, values_55, truth_56, lots_57, shares_58)
                      else
                        some (under_52, b_59, upper_51, under_52, d_53, named_54, values_55, truth_56, lots_57, shares_58))
                    )
                else none))))))
def fb_m_line_55 (a_ : Nat → Int32) (l2 : Int32) (l4 : Int32) : Option (Int32 ⊕ (Unit ⊕ Unit)) :=
  if l4 < (a_ 7) then
    if l2 = (-1) then
      if inb ((125 + (3 * l4)) + 1) 145 then
        if (a_ (ix ((125 + (3 * l4)) + 1))) = (-1) then
          some (.inr (.inl ()))
        else
          some (.inl (l4 + 1))
      else none
    else
      some (.inl (l4 + 1))
  else
    some (.inr (.inr (())))
def fj_m_line_127 (a_ : Nat → Int32) (l2 : Int32) (l3 : Int32) (l4 : Int32) (s0 : Int32) (s1 : Int32) : Option ((Int32 × (Nat → Int32))) :=
  if inb s0 145 then
    bnd (upd a_ (ix s0) s1 : Nat → Int32) fun a_4 =>
    if inb (l4 + 1) 145 then
      bnd (upd a_4 (ix (l4 + 1)) l2 : Nat → Int32) fun a_6 =>
      if inb (l4 + 2) 145 then
        bnd (upd a_6 (ix (l4 + 2)) l3 : Nat → Int32) fun a_8 =>
        bnd (upd a_8 7 ((a_8 7) + 1) : Nat → Int32) fun a_9 =>
        some (a_9 7, a_9)
      else none
    else none
  else none
def fj_m_line_38 (a_ : Nat → Int32) (l1 : Int32) (l2 : Int32) (l3 : Int32) : Option ((Int32 × (Nat → Int32))) :=
  if (a_ 7) = 6 then
    some ((-1), a_)
  else
    (itr (fb_m_line_55 a_ l2) KF 0).bind
      (Sum.elim
        (fun _ =>
          some ((-1), a_)
        )
        (fun _ =>
          bnd (125 + (3 * (a_ 7)) : Int32) fun t2 =>
          if l1 = 0 then
            fj_m_line_127 a_ l2 l3 t2 t2 0
          else
            fj_m_line_127 a_ l2 l3 t2 t2 1
        )
      )
def f_m_line (a_ : Nat → Int32) (l1 : Int32) (l2 : Int32) (l3 : Int32) : Option ((Int32 × (Nat → Int32))) :=
  if l3 = (-1) then
    bnd (upd a_ 7 0 : Nat → Int32) fun a_14 =>
    some (0, a_14)
  else
    if l2 = (-1) then
      fj_m_line_38 a_ l1 l2 l3
    else
      (f_m_isIn l2 0 7).bind (fun r10 =>
      if r10 = 0 then
        some ((-1), a_)
      else
        (f_m_isGate a_ l3).bind (fun r11 =>
        if r11 = 0 then
          some ((-1), a_)
        else
          fj_m_line_38 a_ l1 l2 l3))
def fj_m_isSo_241 (b_ : Int32) (d_ : Nat → Int32) (named_ : Nat → Int32) (values_ : Nat → Int64) (truth_ : Nat → Int32) (l2 : Int32) (l3 : Int32) (l7 : Int32) (l9 : Int32) : Option ((Int32 × (Nat → Int32) × (Nat → Int32) × (Nat → Int64) × (Nat → Int32))) :=
  if l7 = 0 then
    (f_m_leave b_ d_ l2 l3).bind (fun d_13 =>
    some (1, d_13, named_, values_, truth_))
  else
    (f_m_come b_ d_ l2 l3 l9).bind (fun d_15 =>
    some (1, d_15, named_, values_, truth_))
def fj_m_isSo_208 (b_ : Int32) (a_ : Nat → Int32) (d_ : Nat → Int32) (named_ : Nat → Int32) (values_ : Nat → Int64) (truth_ : Nat → Int32) (l2 : Int32) (l3 : Int32) (l5 : Int32) (l6 : Int32) (l7 : Int32) (s0 : Int32) : Option ((Int32 × (Nat → Int32) × (Nat → Int32) × (Nat → Int64) × (Nat → Int32))) :=
  if l6 = 0 then
    if l7 = 0 then
      fj_m_isSo_241 b_ d_ named_ values_ truth_ l2 l3 l7 s0
    else
      (f_m_heapAt b_ d_ l3 s0).bind (fun r17 =>
      if inb (l5 + 1) 145 then
        if r17 = (a_ (ix (l5 + 1))) then
          fj_m_isSo_241 b_ d_ named_ values_ truth_ l2 l3 l7 s0
        else
          some (0, d_, named_, values_, truth_)
      else none)
  else
    fj_m_isSo_241 b_ d_ named_ values_ truth_ l2 l3 l7 s0
def fj_m_isSo_172 (b_ : Int32) (a_ : Nat → Int32) (d_ : Nat → Int32) (texts_ : Nat → Int32) (named_ : Nat → Int32) (values_ : Nat → Int64) (truth_ : Nat → Int32) (l2 : Int32) (l3 : Int32) (l4 : Int32) (l5 : Int32) (l6 : Int32) (l7 : Int32) (l8 : Int32) : Option ((Int32 × (Nat → Int32) × (Nat → Int32) × (Nat → Int64) × (Nat → Int32))) :=
  (f_m_can b_ a_ d_ texts_ named_ values_ truth_ l2 l3).bind (un4 fun r5 named_6 values_7 truth_8 =>
  if r5 = 0 then
    some (0, d_, named_6, values_7, truth_8)
  else
    if l7 = 0 then
      fj_m_isSo_208 b_ a_ d_ named_6 values_7 truth_8 l2 l3 l5 l6 l7 0
    else
      if l8 = 0 then
        (f_m_chosen b_ a_ d_ texts_ named_6 values_7 truth_8 l2 l3).bind (un4 fun r9 named_10 values_11 truth_12 =>
        fj_m_isSo_208 b_ a_ d_ named_10 values_11 truth_12 l2 l3 l5 l6 l7 r9)
      else
        fj_m_isSo_208 b_ a_ d_ named_6 values_7 truth_8 l2 l3 l5 l6 l7 l4)
def fj_m_isSo_147 (b_ : Int32) (a_ : Nat → Int32) (d_ : Nat → Int32) (texts_ : Nat → Int32) (named_ : Nat → Int32) (values_ : Nat → Int64) (truth_ : Nat → Int32) (l2 : Int32) (l3 : Int32) (l4 : Int32) (l5 : Int32) (l6 : Int32) (l7 : Int32) (l8 : Int32) (s0 : Int32) (s1 : Int32) : Option ((Int32 × (Nat → Int32) × (Nat → Int32) × (Nat → Int64) × (Nat → Int32))) :=
  if s0 = s1 then
    if l7 = 0 then
      (f_m_nameAt b_ d_ l2).bind (fun r23 =>
      if inb (l5 + 1) 145 then
        if r23 = (a_ (ix (l5 + 1))) then
          fj_m_isSo_172 b_ a_ d_ texts_ named_ values_ truth_ l2 l3 l4 l5 l6 l7 l8
        else
          some (0, d_, named_, values_, truth_)
      else none)
    else
      fj_m_isSo_172 b_ a_ d_ texts_ named_ values_ truth_ l2 l3 l4 l5 l6 l7 l8
  else
    some (0, d_, named_, values_, truth_)
def fj_m_isSo_124 (b_ : Int32) (a_ : Nat → Int32) (d_ : Nat → Int32) (texts_ : Nat → Int32) (named_ : Nat → Int32) (values_ : Nat → Int64) (truth_ : Nat → Int32) (l2 : Int32) (l3 : Int32) (l4 : Int32) (l5 : Int32) (l6 : Int32) (l7 : Int32) (l8 : Int32) : Option ((Int32 × (Nat → Int32) × (Nat → Int32) × (Nat → Int64) × (Nat → Int32))) :=
  if l6 = 0 then
    if inb l5 145 then
      if (a_ (ix l5)) = 1 then
        fj_m_isSo_147 b_ a_ d_ texts_ named_ values_ truth_ l2 l3 l4 l5 l6 l7 l8 l7 1
      else
        fj_m_isSo_147 b_ a_ d_ texts_ named_ values_ truth_ l2 l3 l4 l5 l6 l7 l8 l7 0
    else none
  else
    fj_m_isSo_172 b_ a_ d_ texts_ named_ values_ truth_ l2 l3 l4 l5 l6 l7 l8
def fj_m_isSo_97 (b_ : Int32) (a_ : Nat → Int32) (d_ : Nat → Int32) (texts_ : Nat → Int32) (named_ : Nat → Int32) (values_ : Nat → Int64) (truth_ : Nat → Int32) (l2 : Int32) (l3 : Int32) (l4 : Int32) (l5 : Int32) (l6 : Int32) (l7 : Int32) (s0 : Int32) : Option ((Int32 × (Nat → Int32) × (Nat → Int32) × (Nat → Int64) × (Nat → Int32))) :=
  if s0 = 0 then
    if 0 < l4 then
      some (0, d_, named_, values_, truth_)
    else
      fj_m_isSo_124 b_ a_ d_ texts_ named_ values_ truth_ l2 l3 l4 l5 l6 l7 s0
  else
    (f_m_hung b_ d_ l3).bind (fun r26 =>
    if l4 < r26 then
      fj_m_isSo_124 b_ a_ d_ texts_ named_ values_ truth_ l2 l3 l4 l5 l6 l7 s0
    else
      some (0, d_, named_, values_, truth_))
def fj_m_isSo_77 (b_ : Int32) (a_ : Nat → Int32) (d_ : Nat → Int32) (texts_ : Nat → Int32) (named_ : Nat → Int32) (values_ : Nat → Int64) (truth_ : Nat → Int32) (l2 : Int32) (l3 : Int32) (l4 : Int32) (l5 : Int32) (l6 : Int32) (s0 : Int32) : Option ((Int32 × (Nat → Int32) × (Nat → Int32) × (Nat → Int64) × (Nat → Int32))) :=
  if s0 = 0 then
    fj_m_isSo_97 b_ a_ d_ texts_ named_ values_ truth_ l2 l3 l4 l5 l6 s0 0
  else
    (f_m_isLot a_ l3).bind (fun r28 =>
    if r28 = 0 then
      fj_m_isSo_97 b_ a_ d_ texts_ named_ values_ truth_ l2 l3 l4 l5 l6 s0 0
    else
      fj_m_isSo_97 b_ a_ d_ texts_ named_ values_ truth_ l2 l3 l4 l5 l6 s0 1)
def fj_m_isSo_64 (b_ : Int32) (a_ : Nat → Int32) (d_ : Nat → Int32) (texts_ : Nat → Int32) (named_ : Nat → Int32) (values_ : Nat → Int64) (truth_ : Nat → Int32) (l2 : Int32) (l3 : Int32) (l4 : Int32) (l5 : Int32) (l6 : Int32) : Option ((Int32 × (Nat → Int32) × (Nat → Int32) × (Nat → Int64) × (Nat → Int32))) :=
  (f_m_nameAt b_ d_ l2).bind (fun r4 =>
  if r4 < 0 then
    fj_m_isSo_77 b_ a_ d_ texts_ named_ values_ truth_ l2 l3 l4 l5 l6 1
  else
    fj_m_isSo_77 b_ a_ d_ texts_ named_ values_ truth_ l2 l3 l4 l5 l6 0)
def fj_m_isSo_26 (b_ : Int32) (a_ : Nat → Int32) (d_ : Nat → Int32) (texts_ : Nat → Int32) (named_ : Nat → Int32) (values_ : Nat → Int64) (truth_ : Nat → Int32) (l2 : Int32) (l3 : Int32) (l4 : Int32) (l5 : Int32) (s0 : Int32) : Option ((Int32 × (Nat → Int32) × (Nat → Int32) × (Nat → Int64) × (Nat → Int32))) :=
  (f_m_isPerson a_ l2).bind (fun r2 =>
  if r2 = 0 then
    some (0, d_, named_, values_, truth_)
  else
    (f_m_isGate a_ l3).bind (fun r3 =>
    if r3 = 0 then
      some (0, d_, named_, values_, truth_)
    else
      if s0 = 0 then
        if inb (l5 + 2) 145 then
          if l3 = (a_ (ix (l5 + 2))) then
            fj_m_isSo_64 b_ a_ d_ texts_ named_ values_ truth_ l2 l3 l4 l5 s0
          else
            some (0, d_, named_, values_, truth_)
        else none
      else
        fj_m_isSo_64 b_ a_ d_ texts_ named_ values_ truth_ l2 l3 l4 l5 s0))
def f_m_isSo (b_ : Int32) (a_ : Nat → Int32) (d_ : Nat → Int32) (texts_ : Nat → Int32) (named_ : Nat → Int32) (values_ : Nat → Int64) (truth_ : Nat → Int32) (l1 : Int32) (l2 : Int32) (l3 : Int32) (l4 : Int32) : Option ((Int32 × (Nat → Int32) × (Nat → Int32) × (Nat → Int64) × (Nat → Int32))) :=
  if inb ((125 + (3 * l1)) + 1) 145 then
    if (a_ (ix ((125 + (3 * l1)) + 1))) = (-1) then
      fj_m_isSo_26 b_ a_ d_ texts_ named_ values_ truth_ l2 l3 l4 (125 + (3 * l1)) 1
    else
      fj_m_isSo_26 b_ a_ d_ texts_ named_ values_ truth_ l2 l3 l4 (125 + (3 * l1)) 0
  else none
def fb_m_stepBook_0 (a_ : Nat → Int32) (texts_ : Nat → Int32) (l1 : Int32) (b_ : Int32) (d_ : Nat → Int32) (named_ : Nat → Int32) (values_ : Nat → Int64) (truth_ : Nat → Int32) (tried_ : Nat → Int32) : Option ((Int32 × (Nat → Int32) × (Nat → Int32) × (Nat → Int64) × (Nat → Int32) × (Nat → Int32)) ⊕ ((Int32 × (Nat → Int32) × (Nat → Int32) × (Nat → Int64) × (Nat → Int32) × (Nat → Int32)) ⊕ (Int32 × (Nat → Int32) × (Nat → Int32) × (Nat → Int64) × (Nat → Int32) × (Nat → Int32)))) :=
  if inb l1 7 then
    if (tried_ (ix l1)) < 191 then
      if inb l1 7 then
        if inb l1 7 then
          bnd (upd tried_ (ix l1) ((tried_ (ix l1)) + 1) : Nat → Int32) fun tried_4 =>
          (f_m_copy d_ (2 + l1) (3 + l1)).bind (fun d_5 =>
          (f_m_tries b_ (3 + l1)).bind (fun b_6 =>
          if inb l1 7 then
            if inb l1 7 then
              if inb l1 7 then
                (f_m_isSo b_6 a_ d_5 texts_ named_ values_ truth_ l1 ((tried_4 (ix l1)) / 24) (rem32 ((tried_4 (ix l1)) / 8) 3) (rem32 (tried_4 (ix l1)) 8)).bind (un5 fun r10 d_11 named_12 values_13 truth_14 =>
                if r10 = 0 then
                  some (.inl (b_6, d_11, named_12, values_13, truth_14, tried_4))
                else
                  some (.inr (.inl (b_6, d_11, named_12, values_13, truth_14, tried_4))))
              else none
            else none
          else none))
        else none
      else none
    else
      some (.inr (.inr ((b_, d_, named_, values_, truth_, tried_))))
  else none
def f_m_stepBook (b_ : Int32) (a_ : Nat → Int32) (d_ : Nat → Int32) (texts_ : Nat → Int32) (named_ : Nat → Int32) (values_ : Nat → Int64) (truth_ : Nat → Int32) (tried_ : Nat → Int32) (l1 : Int32) : Option ((Int32 × Int32 × (Nat → Int32) × (Nat → Int32) × (Nat → Int64) × (Nat → Int32) × (Nat → Int32))) :=
  (itr (un6 (fb_m_stepBook_0 a_ texts_ l1)) KF (b_, d_, named_, values_, truth_, tried_)).bind
    (Sum.elim
      (un6 fun b_18 d_19 named_20 values_21 truth_22 tried_23 =>
        some (1, b_18, d_19, named_20, values_21, truth_22, tried_23)
      )
      (un6 fun b_24 d_25 named_26 values_27 truth_28 tried_29 =>
        some (0, b_24, d_25, named_26, values_27, truth_28, tried_29)
      )
    )
def fj_m_count_46_12 (b_ : Int32) (a_ : Nat → Int32) (d_ : Nat → Int32) (mays_ : Nat → Int32) (parts_ : Nat → Int32) (l1 : Int32) (l2 : Int32) (s0 : Int32) (s1 : Int32) : Option ((Int32 × (Nat → Int32) × (Nat → Int32)) ⊕ ((Nat → Int32) × (Nat → Int32))) :=
  if inb (s0 + s1) 72 then
    if inb (s0 + s1) 72 then
      bnd (upd parts_ (ix (s0 + s1)) ((parts_ (ix (s0 + s1))) + 1) : Nat → Int32) fun parts_4 =>
      if l2 < 0 then
        some (.inl (l1 + 1, mays_, parts_4))
      else
        if inb l2 8 then
          if inb l2 8 then
            bnd (upd mays_ (ix l2) ((mays_ (ix l2)) ||| (1 <<< (l1 &&& 31))) : Nat → Int32) fun mays_7 =>
            some (.inl (l1 + 1, mays_7, parts_4))
          else none
        else none
    else none
  else none
def fb_m_count_12 (b_ : Int32) (a_ : Nat → Int32) (d_ : Nat → Int32) (l1 : Int32) (mays_ : Nat → Int32) (parts_ : Nat → Int32) : Option ((Int32 × (Nat → Int32) × (Nat → Int32)) ⊕ ((Nat → Int32) × (Nat → Int32))) :=
  if l1 < (a_ 0) then
    (f_m_nameAt b_ d_ l1).bind (fun r1 =>
    if r1 < 0 then
      fj_m_count_46_12 b_ a_ d_ mays_ parts_ l1 r1 (9 * l1) 8
    else
      fj_m_count_46_12 b_ a_ d_ mays_ parts_ l1 r1 (9 * l1) r1)
  else
    some (.inr (mays_, parts_))
def fb_m_count_88 (b_ : Int32) (d_ : Nat → Int32) (l1 : Int32) (l2 : Int32) (mays_ : Nat → Int32) : Option ((Int32 × (Nat → Int32)) ⊕ (Nat → Int32)) :=
  (f_m_hung b_ d_ l1).bind (fun r11 =>
  if l2 < r11 then
    (f_m_heapAt b_ d_ l1 l2).bind (fun r12 =>
    if inb r12 8 then
      if inb r12 8 then
        bnd (upd mays_ (ix r12) ((mays_ (ix r12)) ||| 256) : Nat → Int32) fun mays_15 =>
        some (.inl (l2 + 1, mays_15))
      else none
    else none)
  else
    some (.inr mays_))
def fb_m_count_76 (b_ : Int32) (a_ : Nat → Int32) (d_ : Nat → Int32) (l1 : Int32) (mays_ : Nat → Int32) : Option ((Int32 × (Nat → Int32)) ⊕ (Nat → Int32)) :=
  if l1 < (a_ 1) then
    (itr (un2 (fb_m_count_88 b_ d_ l1)) KF (0, mays_)).bind
      (fun mays_18 =>
        some (.inl (l1 + 1, mays_18))
      )
  else
    some (.inr mays_)
def f_m_count (b_ : Int32) (wayMany_ : Int32) (a_ : Nat → Int32) (d_ : Nat → Int32) (mays_ : Nat → Int32) (parts_ : Nat → Int32) : Option ((Int32 × (Nat → Int32) × (Nat → Int32))) :=
  (itr (un3 (fb_m_count_12 b_ a_ d_)) KF (0, mays_, parts_)).bind
    (un2 fun mays_9 parts_10 =>
      (itr (un2 (fb_m_count_76 b_ a_ d_)) KF (0, mays_9)).bind
        (fun mays_19 =>
          some (wayMany_ + 1, mays_19, parts_10)
        )
    )
def fb_m_findWays_7 (l1 : Int32) (mays_ : Nat → Int32) : Option ((Int32 × (Nat → Int32)) ⊕ (Nat → Int32)) :=
  if l1 < 8 then
    if inb l1 8 then
      bnd (upd mays_ (ix l1) 0 : Nat → Int32) fun mays_2 =>
      some (.inl (l1 + 1, mays_2))
    else none
  else
    some (.inr mays_)
def fb_m_findWays_28 (l1 : Int32) (parts_ : Nat → Int32) : Option ((Int32 × (Nat → Int32)) ⊕ (Nat → Int32)) :=
  if l1 < 72 then
    if inb l1 72 then
      bnd (upd parts_ (ix l1) 0 : Nat → Int32) fun parts_5 =>
      some (.inl (l1 + 1, parts_5))
    else none
  else
    some (.inr parts_)
def fb_m_findWays_62 (a_ : Nat → Int32) (texts_ : Nat → Int32) (l1 : Int32) (b_ : Int32) (wayMany_ : Int32) (d_ : Nat → Int32) (named_ : Nat → Int32) (values_ : Nat → Int64) (truth_ : Nat → Int32) (tried_ : Nat → Int32) (mays_ : Nat → Int32) (parts_ : Nat → Int32) : Option ((Int32 × Int32 × Int32 × (Nat → Int32) × (Nat → Int32) × (Nat → Int64) × (Nat → Int32) × (Nat → Int32) × (Nat → Int32) × (Nat → Int32)) ⊕ (Int32 × Int32 × (Nat → Int32) × (Nat → Int32) × (Nat → Int64) × (Nat → Int32) × (Nat → Int32) × (Nat → Int32) × (Nat → Int32))) :=
  if l1 < 0 then
    some (.inr (b_, wayMany_, d_, named_, values_, truth_, tried_, mays_, parts_))
  else
    if l1 = (a_ 7) then
      (f_m_tries b_ (2 + l1)).bind (fun b_28 =>
      (f_m_count b_28 wayMany_ a_ d_ mays_ parts_).bind (un3 fun wayMany_29 mays_30 parts_31 =>
      some (.inl (l1 + (-1), b_28, wayMany_29, d_, named_, values_, truth_, tried_, mays_30, parts_31))))
    else
      (f_m_stepBook b_ a_ d_ texts_ named_ values_ truth_ tried_ l1).bind (un7 fun r18 b_19 d_20 named_21 values_22 truth_23 tried_24 =>
      if r18 = 0 then
        some (.inl (l1 + (-1), b_19, wayMany_, d_20, named_21, values_22, truth_23, tried_24, mays_, parts_))
      else
        if inb (l1 + 1) 7 then
          bnd (upd tried_24 (ix (l1 + 1)) (-1) : Nat → Int32) fun tried_26 =>
          some (.inl (l1 + 1, b_19, wayMany_, d_20, named_21, values_22, truth_23, tried_26, mays_, parts_))
        else none)
def f_m_findWays (b_ : Int32) (wayMany_ : Int32) (a_ : Nat → Int32) (d_ : Nat → Int32) (texts_ : Nat → Int32) (named_ : Nat → Int32) (values_ : Nat → Int64) (truth_ : Nat → Int32) (tried_ : Nat → Int32) (mays_ : Nat → Int32) (parts_ : Nat → Int32) : Option ((Int32 × Int32 × (Nat → Int32) × (Nat → Int32) × (Nat → Int64) × (Nat → Int32) × (Nat → Int32) × (Nat → Int32) × (Nat → Int32))) :=
  (itr (un2 fb_m_findWays_7) KF (0, mays_)).bind
    (fun mays_3 =>
      (itr (un2 fb_m_findWays_28) KF (0, parts_)).bind
        (fun parts_6 =>
          (f_m_copy d_ 0 2).bind (fun d_7 =>
          bnd (upd tried_ 0 (-1) : Nat → Int32) fun tried_8 =>
          if (0 : Int32) < 0 then
            (f_m_tries b_ 0).bind (fun b_9 =>
            some (b_9, 0, d_7, named_, values_, truth_, tried_8, mays_3, parts_6))
          else
            if 0 = (a_ 7) then
              (f_m_tries b_ (2 + 0)).bind (fun b_59 =>
              (f_m_count b_59 0 a_ d_7 mays_3 parts_6).bind (un3 fun wayMany_60 mays_61 parts_62 =>
              (itr (un10 (fb_m_findWays_62 a_ texts_)) KF (0 + (-1), b_59, wayMany_60, d_7, named_, values_, truth_, tried_8, mays_61, parts_62)).bind
                (un9 fun b_63 wayMany_64 d_65 named_66 values_67 truth_68 tried_69 mays_70 parts_71 =>
                  (f_m_tries b_63 0).bind (fun b_72 =>
                  some (b_72, wayMany_64, d_65, named_66, values_67, truth_68, tried_69, mays_70, parts_71))
                )))
            else
              (f_m_stepBook b_ a_ d_7 texts_ named_ values_ truth_ tried_8 0).bind (un7 fun r11 b_12 d_13 named_14 values_15 truth_16 tried_17 =>
              if r11 = 0 then
                (itr (un10 (fb_m_findWays_62 a_ texts_)) KF (0 + (-1), b_12, 0, d_13, named_14, values_15, truth_16, tried_17, mays_3, parts_6)).bind
                  (un9 fun b_34 wayMany_35 d_36 named_37 values_38 truth_39 tried_40 mays_41 parts_42 =>
                    (f_m_tries b_34 0).bind (fun b_43 =>
                    some (b_43, wayMany_35, d_36, named_37, values_38, truth_39, tried_40, mays_41, parts_42))
                  )
              else
                if inb (0 + 1) 7 then
                  bnd (upd tried_17 (ix (0 + 1)) (-1) : Nat → Int32) fun tried_46 =>
                  (itr (un10 (fb_m_findWays_62 a_ texts_)) KF (0 + 1, b_12, 0, d_13, named_14, values_15, truth_16, tried_46, mays_3, parts_6)).bind
                    (un9 fun b_47 wayMany_48 d_49 named_50 values_51 truth_52 tried_53 mays_54 parts_55 =>
                      (f_m_tries b_47 0).bind (fun b_56 =>
                      some (b_56, wayMany_48, d_49, named_50, values_51, truth_52, tried_53, mays_54, parts_55))
                    )
                else none))
        )
    )
def f_m_ways (b_ : Int32) (wayMany_ : Int32) (a_ : Nat → Int32) (d_ : Nat → Int32) (texts_ : Nat → Int32) (named_ : Nat → Int32) (values_ : Nat → Int64) (truth_ : Nat → Int32) (tried_ : Nat → Int32) (mays_ : Nat → Int32) (parts_ : Nat → Int32) : Option ((Int32 × Int32 × Int32 × (Nat → Int32) × (Nat → Int32) × (Nat → Int64) × (Nat → Int32) × (Nat → Int32) × (Nat → Int32) × (Nat → Int32))) :=
  (f_m_findWays b_ wayMany_ a_ d_ texts_ named_ values_ truth_ tried_ mays_ parts_).bind (un9 fun b_1 wayMany_2 d_3 named_4 values_5 truth_6 tried_7 mays_8 parts_9 =>
  some (wayMany_2, b_1, wayMany_2, d_3, named_4, values_5, truth_6, tried_7, mays_8, parts_9))
def f_m_may (b_ : Int32) (wayMany_ : Int32) (a_ : Nat → Int32) (d_ : Nat → Int32) (texts_ : Nat → Int32) (named_ : Nat → Int32) (values_ : Nat → Int64) (truth_ : Nat → Int32) (tried_ : Nat → Int32) (mays_ : Nat → Int32) (parts_ : Nat → Int32) (l1 : Int32) : Option ((Int32 × Int32 × Int32 × (Nat → Int32) × (Nat → Int32) × (Nat → Int64) × (Nat → Int32) × (Nat → Int32) × (Nat → Int32) × (Nat → Int32))) :=
  (f_m_isIn l1 0 7).bind (fun r1 =>
  if r1 = 0 then
    some ((-1), b_, wayMany_, d_, named_, values_, truth_, tried_, mays_, parts_)
  else
    (f_m_findWays b_ wayMany_ a_ d_ texts_ named_ values_ truth_ tried_ mays_ parts_).bind (un9 fun b_2 wayMany_3 d_4 named_5 values_6 truth_7 tried_8 mays_9 parts_10 =>
    if inb l1 8 then
      some (mays_9 (ix l1), b_2, wayMany_3, d_4, named_5, values_6, truth_7, tried_8, mays_9, parts_10)
    else none))
def fb_m_ask_57 (parts_ : Nat → Int32) (l4 : Int32) (l5 : Int32) (l6 : Int32) : Option ((Int32 × Int32) ⊕ Int32) :=
  if l6 < 9 then
    if inb ((9 * l4) + l6) 72 then
      if l5 < (parts_ (ix ((9 * l4) + l6))) then
        if inb ((9 * l4) + l6) 72 then
          bnd (parts_ (ix ((9 * l4) + l6)) : Int32) fun t13 =>
          some (.inl (t13, l6 + 1))
        else none
      else
        some (.inl (l5, l6 + 1))
    else none
  else
    some (.inr l5)
def fb_m_ask_40 (a_ : Nat → Int32) (parts_ : Nat → Int32) (l2 : Int32) (l3 : Int32) (l4 : Int32) : Option ((Int32 × Int32 × Int32) ⊕ (Int32 × Int32)) :=
  if l4 < (a_ 0) then
    (itr (un2 (fb_m_ask_57 parts_ l4)) KF (0, 0)).bind
      (fun l5_14 =>
        if l2 < 0 then
          some (.inl (l4, l5_14, l4 + 1))
        else
          if l5_14 < l3 then
            some (.inl (l4, l5_14, l4 + 1))
          else
            some (.inl (l2, l3, l4 + 1))
      )
  else
    some (.inr (l2, l3))
def f_m_ask (b_ : Int32) (wayMany_ : Int32) (a_ : Nat → Int32) (d_ : Nat → Int32) (texts_ : Nat → Int32) (named_ : Nat → Int32) (values_ : Nat → Int64) (truth_ : Nat → Int32) (tried_ : Nat → Int32) (mays_ : Nat → Int32) (parts_ : Nat → Int32) (l1 : Int32) : Option ((Int32 × Int32 × Int32 × (Nat → Int32) × (Nat → Int32) × (Nat → Int64) × (Nat → Int32) × (Nat → Int32) × (Nat → Int32) × (Nat → Int32))) :=
  (f_m_isIn l1 0 1).bind (fun r1 =>
  if r1 = 0 then
    some ((-1), b_, wayMany_, d_, named_, values_, truth_, tried_, mays_, parts_)
  else
    if (a_ 0) = 0 then
      some ((-1), b_, wayMany_, d_, named_, values_, truth_, tried_, mays_, parts_)
    else
      (f_m_findWays b_ wayMany_ a_ d_ texts_ named_ values_ truth_ tried_ mays_ parts_).bind (un9 fun b_2 wayMany_3 d_4 named_5 values_6 truth_7 tried_8 mays_9 parts_10 =>
      if wayMany_3 = 0 then
        some ((-1), b_2, wayMany_3, d_4, named_5, values_6, truth_7, tried_8, mays_9, parts_10)
      else
        (itr (un3 (fb_m_ask_40 a_ parts_10)) KF ((-1), 0, 0)).bind
          (un2 fun l2_15 l3_16 =>
            if l1 = 0 then
              some (l2_15, b_2, wayMany_3, d_4, named_5, values_6, truth_7, tried_8, mays_9, parts_10)
            else
              some (l3_16, b_2, wayMany_3, d_4, named_5, values_6, truth_7, tried_8, mays_9, parts_10)
          )))
def fb_m_sumOf_5 (b_ : Int32) (d_ : Nat → Int32) (l1 : Int32) (l2 : Int32) : Option ((Int32 × Int32) ⊕ Int32) :=
  if l2 < 8 then
    (f_m_nameAt b_ d_ l2).bind (fun r1 =>
    bnd (((l1 * 31) + r1) + 1 : Int32) fun t2 =>
    some (.inl (t2, l2 + 1)))
  else
    some (.inr l1)
def fb_m_sumOf_50 (b_ : Int32) (d_ : Nat → Int32) (l2 : Int32) (l1 : Int32) (l3 : Int32) : Option ((Int32 × Int32) ⊕ Int32) :=
  (f_m_hung b_ d_ l2).bind (fun r6 =>
  if l3 < r6 then
    (f_m_heapAt b_ d_ l2 l3).bind (fun r7 =>
    some (.inl ((l1 * 31) + r7, l3 + 1)))
  else
    some (.inr l1))
def fb_m_sumOf_32 (b_ : Int32) (d_ : Nat → Int32) (l1 : Int32) (l2 : Int32) : Option ((Int32 × Int32) ⊕ Int32) :=
  if l2 < 3 then
    (f_m_hung b_ d_ l2).bind (fun r5 =>
    (itr (un2 (fb_m_sumOf_50 b_ d_ l2)) KF ((l1 * 31) + r5, 0)).bind
      (fun l1_10 =>
        some (.inl (l1_10, l2 + 1))
      ))
  else
    some (.inr l1)
def f_m_sumOf (b_ : Int32) (d_ : Nat → Int32) : Option (Int32) :=
  (itr (un2 (fb_m_sumOf_5 b_ d_)) KF (7, 0)).bind
    (fun l1_4 =>
      (itr (un2 (fb_m_sumOf_32 b_ d_)) KF (l1_4, 0)).bind
        (fun l1_12 =>
          some (l1_12 &&& 4095)
        )
    )
def fb_m_isState_7 (b_ : Int32) (d_ : Nat → Int32) (states_ : Nat → Int32) (l2 : Int32) (l3 : Int32) : Option (Int32 ⊕ (Unit ⊕ Unit)) :=
  if l3 < 8 then
    if inb (l2 + l3) 105035 then
      (f_m_nameAt b_ d_ l3).bind (fun r2 =>
      if (states_ (ix (l2 + l3))) = r2 then
        some (.inl (l3 + 1))
      else
        some (.inr (.inl ())))
    else none
  else
    some (.inr (.inr (())))
def fb_m_isState_68 (b_ : Int32) (d_ : Nat → Int32) (states_ : Nat → Int32) (l2 : Int32) (l3 : Int32) (l4 : Int32) : Option (Int32 ⊕ (Unit ⊕ Unit)) :=
  (f_m_hung b_ d_ l3).bind (fun r6 =>
  if l4 < r6 then
    if inb (((l2 + 11) + (8 * l3)) + l4) 105035 then
      (f_m_heapAt b_ d_ l3 l4).bind (fun r8 =>
      if (states_ (ix (((l2 + 11) + (8 * l3)) + l4))) = r8 then
        some (.inl (l4 + 1))
      else
        some (.inr (.inl ())))
    else none
  else
    some (.inr (.inr (()))))
def fb_m_isState_39 (b_ : Int32) (d_ : Nat → Int32) (states_ : Nat → Int32) (l2 : Int32) (l3 : Int32) : Option (Int32 ⊕ (Unit ⊕ Unit ⊕ Unit)) :=
  if l3 < 3 then
    if inb ((l2 + 8) + l3) 105035 then
      (f_m_hung b_ d_ l3).bind (fun r5 =>
      if (states_ (ix ((l2 + 8) + l3))) = r5 then
        (itr (fb_m_isState_68 b_ d_ states_ l2 l3) KF 0).bind
          (Sum.elim
            (fun _ =>
              some (.inr (.inr (.inl ())))
            )
            (fun _ =>
              some (.inl (l3 + 1))
            )
          )
      else
        some (.inr (.inl ())))
    else none
  else
    some (.inr (.inr (.inr (()))))
def f_m_isState (b_ : Int32) (d_ : Nat → Int32) (states_ : Nat → Int32) (l1 : Int32) : Option (Int32) :=
  (itr (fb_m_isState_7 b_ d_ states_ (35 * l1)) KF 0).bind
    (Sum.elim
      (fun _ =>
        some 0
      )
      (fun _ =>
        (itr (fb_m_isState_39 b_ d_ states_ (35 * l1)) KF 0).bind
          (Sum.elim
            (fun _ =>
              some 0
            )
            (Sum.elim
              (fun _ =>
                some 0
              )
              (fun _ =>
                some 1
              )
            )
          )
      )
    )
def fb_m_isKnown_7 (b_ : Int32) (d_ : Nat → Int32) (states_ : Nat → Int32) (chain_ : Nat → Int32) (l2 : Int32) : Option (Int32 ⊕ (Unit ⊕ Unit)) :=
  if l2 < 0 then
    some (.inr (.inr (())))
  else
    (f_m_isState b_ d_ states_ l2).bind (fun r2 =>
    if r2 = 0 then
      if inb l2 3001 then
        some (.inl (chain_ (ix l2)))
      else none
    else
      some (.inr (.inl ())))
def f_m_isKnown (b_ : Int32) (d_ : Nat → Int32) (states_ : Nat → Int32) (chain_ : Nat → Int32) (chains_ : Nat → Int32) (l1 : Int32) : Option (Int32) :=
  if inb l1 4096 then
    (itr (fb_m_isKnown_7 b_ d_ states_ chain_) KF (chains_ (ix l1))).bind
      (Sum.elim
        (fun _ =>
          some 1
        )
        (fun _ =>
          some 0
        )
      )
  else none
def fb_m_addState_3 (b_ : Int32) (stateMany_ : Int32) (d_ : Nat → Int32) (l4 : Int32) (states_ : Nat → Int32) : Option ((Int32 × (Nat → Int32)) ⊕ (Nat → Int32)) :=
  if l4 < 35 then
    if inb (b_ + l4) 560 then
      if inb ((35 * stateMany_) + l4) 105035 then
        bnd (upd states_ (ix ((35 * stateMany_) + l4)) (d_ (ix (b_ + l4))) : Nat → Int32) fun states_3 =>
        some (.inl (l4 + 1, states_3))
      else none
    else none
  else
    some (.inr states_)
def f_m_addState (b_ : Int32) (stateMany_ : Int32) (d_ : Nat → Int32) (states_ : Nat → Int32) (camesFrom_ : Nat → Int32) (cameBy_ : Nat → Int32) (chain_ : Nat → Int32) (chains_ : Nat → Int32) (l1 : Int32) (l2 : Int32) (l3 : Int32) : Option ((Int32 × (Nat → Int32) × (Nat → Int32) × (Nat → Int32) × (Nat → Int32) × (Nat → Int32))) :=
  (itr (un2 (fb_m_addState_3 b_ stateMany_ d_)) KF (0, states_)).bind
    (fun states_4 =>
      if inb stateMany_ 3001 then
        bnd (upd camesFrom_ (ix stateMany_) l2 : Nat → Int32) fun camesFrom_6 =>
        if inb stateMany_ 3001 then
          bnd (upd cameBy_ (ix stateMany_) l3 : Nat → Int32) fun cameBy_8 =>
          if inb l1 4096 then
            if inb stateMany_ 3001 then
              bnd (upd chain_ (ix stateMany_) (chains_ (ix l1)) : Nat → Int32) fun chain_11 =>
              if inb l1 4096 then
                bnd (upd chains_ (ix l1) stateMany_ : Nat → Int32) fun chains_13 =>
                some (stateMany_ + 1, states_4, camesFrom_6, cameBy_8, chain_11, chains_13)
              else none
            else none
          else none
        else none
      else none
    )
def fb_m_isGoal_61 (b_ : Int32) (a_ : Nat → Int32) (d_ : Nat → Int32) (l4 : Int32) : Option (Int32 ⊕ (Unit ⊕ Unit)) :=
  if l4 < (a_ 0) then
    (f_m_isBorn a_ l4).bind (fun r1 =>
    if r1 = 0 then
      some (.inl (l4 + 1))
    else
      (f_m_nameAt b_ d_ l4).bind (fun r2 =>
      if r2 = l4 then
        some (.inl (l4 + 1))
      else
        some (.inr (.inl ()))))
  else
    some (.inr (.inr (())))
def f_m_isGoal (b_ : Int32) (a_ : Nat → Int32) (d_ : Nat → Int32) (l1 : Int32) (l2 : Int32) (l3 : Int32) : Option (Int32) :=
  if l1 = 0 then
    (f_m_nameAt b_ d_ l2).bind (fun r11 =>
    if r11 = l3 then
      some 1
    else
      some 0)
  else
    if l1 = 1 then
      (f_m_nameAt b_ d_ l2).bind (fun r5 =>
      if inb l3 560 then
        if r5 = (d_ (ix l3)) then
          (f_m_nameAt b_ d_ l3).bind (fun r7 =>
          if inb l2 560 then
            if r7 = (d_ (ix l2)) then
              some 1
            else
              some 0
          else none)
        else
          some 0
      else none)
    else
      (itr (fb_m_isGoal_61 b_ a_ d_) KF 0).bind
        (Sum.elim
          (fun _ =>
            some 0
          )
          (fun _ =>
            some 1
          )
        )
def fb_m_findGoal_3 (l5 : Int32) (chains_ : Nat → Int32) : Option ((Int32 × (Nat → Int32)) ⊕ (Nat → Int32)) :=
  if l5 < 4096 then
    if inb l5 4096 then
      bnd (upd chains_ (ix l5) (-1) : Nat → Int32) fun chains_2 =>
      some (.inl (l5 + 1, chains_2))
    else none
  else
    some (.inr chains_)
def fb_m_findGoal_125 (b_ : Int32) (states_ : Nat → Int32) (l5 : Int32) (l7 : Int32) (d_ : Nat → Int32) : Option ((Int32 × (Nat → Int32)) ⊕ (Nat → Int32)) :=
  if l7 < 35 then
    if inb ((35 * l5) + l7) 105035 then
      if inb (b_ + l7) 560 then
        bnd (upd d_ (ix (b_ + l7)) (states_ (ix ((35 * l5) + l7))) : Nat → Int32) fun d_18 =>
        some (.inl (l7 + 1, d_18))
      else none
    else none
  else
    some (.inr d_)
def fb_m_findGoal_78 (b_ : Int32) (a_ : Nat → Int32) (texts_ : Nat → Int32) (l1 : Int32) (l2 : Int32) (l3 : Int32) (l4 : Int32) (l5 : Int32) (l6 : Int32) (stateMany_ : Int32) (d_ : Nat → Int32) (named_ : Nat → Int32) (values_ : Nat → Int64) (truth_ : Nat → Int32) (states_ : Nat → Int32) (camesFrom_ : Nat → Int32) (cameBy_ : Nat → Int32) (chain_ : Nat → Int32) (chains_ : Nat → Int32) : Option ((Int32 × Int32 × (Nat → Int32) × (Nat → Int32) × (Nat → Int64) × (Nat → Int32) × (Nat → Int32) × (Nat → Int32) × (Nat → Int32) × (Nat → Int32) × (Nat → Int32)) ⊕ ((Int32 × (Nat → Int32) × (Nat → Int32) × (Nat → Int64) × (Nat → Int32) × (Nat → Int32) × (Nat → Int32) × (Nat → Int32) × (Nat → Int32) × (Nat → Int32)) ⊕ (Int32 × (Nat → Int32) × (Nat → Int32) × (Nat → Int64) × (Nat → Int32) × (Nat → Int32) × (Nat → Int32) × (Nat → Int32) × (Nat → Int32) × (Nat → Int32)) ⊕ (Int32 × (Nat → Int32) × (Nat → Int32) × (Nat → Int64) × (Nat → Int32) × (Nat → Int32) × (Nat → Int32) × (Nat → Int32) × (Nat → Int32) × (Nat → Int32)))) :=
  if l6 < 24 then
    if ((l4 >>> ((l6 / 3) &&& 31)) &&& 1) = 0 then
      some (.inl (l6 + 1, stateMany_, d_, named_, values_, truth_, states_, camesFrom_, cameBy_, chain_, chains_))
    else
      (f_m_isGate a_ (rem32 l6 3)).bind (fun r14 =>
      if r14 = 0 then
        some (.inl (l6 + 1, stateMany_, d_, named_, values_, truth_, states_, camesFrom_, cameBy_, chain_, chains_))
      else
        (f_m_isLot a_ (rem32 l6 3)).bind (fun r15 =>
        if r15 = 0 then
          (itr (un2 (fb_m_findGoal_125 b_ states_ l5)) KF (0, d_)).bind
            (fun d_19 =>
              (f_m_goes b_ a_ d_19 texts_ named_ values_ truth_ (l6 / 3) (rem32 l6 3)).bind (un5 fun r20 d_21 named_22 values_23 truth_24 =>
              if r20 = 0 then
                some (.inl (l6 + 1, stateMany_, d_21, named_22, values_23, truth_24, states_, camesFrom_, cameBy_, chain_, chains_))
              else
                (f_m_sumOf b_ d_21).bind (fun r25 =>
                (f_m_isKnown b_ d_21 states_ chain_ chains_ r25).bind (fun r26 =>
                if r26 = 0 then
                  if stateMany_ = 3000 then
                    some (.inr (.inl (stateMany_, d_21, named_22, values_23, truth_24, states_, camesFrom_, cameBy_, chain_, chains_)))
                  else
                    (f_m_addState b_ stateMany_ d_21 states_ camesFrom_ cameBy_ chain_ chains_ r25 l5 ((10 * (l6 / 3)) + (rem32 l6 3))).bind (un6 fun stateMany_27 states_28 camesFrom_29 cameBy_30 chain_31 chains_32 =>
                    (f_m_isGoal b_ a_ d_21 l1 l2 l3).bind (fun r33 =>
                    if r33 = 0 then
                      some (.inl (l6 + 1, stateMany_27, d_21, named_22, values_23, truth_24, states_28, camesFrom_29, cameBy_30, chain_31, chains_32))
                    else
                      some (.inr (.inr (.inl (stateMany_27, d_21, named_22, values_23, truth_24, states_28, camesFrom_29, cameBy_30, chain_31, chains_32))))))
                else
                  some (.inl (l6 + 1, stateMany_, d_21, named_22, values_23, truth_24, states_, camesFrom_, cameBy_, chain_, chains_)))))
            )
        else
          some (.inl (l6 + 1, stateMany_, d_, named_, values_, truth_, states_, camesFrom_, cameBy_, chain_, chains_))))
  else
    some (.inr (.inr (.inr ((stateMany_, d_, named_, values_, truth_, states_, camesFrom_, cameBy_, chain_, chains_)))))
def fb_m_findGoal_66 (b_ : Int32) (a_ : Nat → Int32) (texts_ : Nat → Int32) (l1 : Int32) (l2 : Int32) (l3 : Int32) (l4 : Int32) (l5 : Int32) (stateMany_ : Int32) (d_ : Nat → Int32) (named_ : Nat → Int32) (values_ : Nat → Int64) (truth_ : Nat → Int32) (states_ : Nat → Int32) (camesFrom_ : Nat → Int32) (cameBy_ : Nat → Int32) (chain_ : Nat → Int32) (chains_ : Nat → Int32) : Option ((Int32 × Int32 × (Nat → Int32) × (Nat → Int32) × (Nat → Int64) × (Nat → Int32) × (Nat → Int32) × (Nat → Int32) × (Nat → Int32) × (Nat → Int32) × (Nat → Int32)) ⊕ ((Int32 × (Nat → Int32) × (Nat → Int32) × (Nat → Int64) × (Nat → Int32) × (Nat → Int32) × (Nat → Int32) × (Nat → Int32) × (Nat → Int32) × (Nat → Int32)) ⊕ (Int32 × (Nat → Int32) × (Nat → Int32) × (Nat → Int64) × (Nat → Int32) × (Nat → Int32) × (Nat → Int32) × (Nat → Int32) × (Nat → Int32) × (Nat → Int32)) ⊕ (Int32 × (Nat → Int32) × (Nat → Int32) × (Nat → Int64) × (Nat → Int32) × (Nat → Int32) × (Nat → Int32) × (Nat → Int32) × (Nat → Int32) × (Nat → Int32)))) :=
  if l5 < stateMany_ then
    (itr (un11 (fb_m_findGoal_78 b_ a_ texts_ l1 l2 l3 l4 l5)) KF (0, stateMany_, d_, named_, values_, truth_, states_, camesFrom_, cameBy_, chain_, chains_)).bind
      (Sum.elim
        (un10 fun stateMany_41 d_42 named_43 values_44 truth_45 states_46 camesFrom_47 cameBy_48 chain_49 chains_50 =>
          some (.inr (.inl (stateMany_41, d_42, named_43, values_44, truth_45, states_46, camesFrom_47, cameBy_48, chain_49, chains_50)))
        )
        (Sum.elim
          (un10 fun stateMany_51 d_52 named_53 values_54 truth_55 states_56 camesFrom_57 cameBy_58 chain_59 chains_60 =>
            some (.inr (.inr (.inl (stateMany_51, d_52, named_53, values_54, truth_55, states_56, camesFrom_57, cameBy_58, chain_59, chains_60))))
          )
          (un10 fun stateMany_61 d_62 named_63 values_64 truth_65 states_66 camesFrom_67 cameBy_68 chain_69 chains_70 =>
            some (.inl (l5 + 1, stateMany_61, d_62, named_63, values_64, truth_65, states_66, camesFrom_67, cameBy_68, chain_69, chains_70))
          )
        )
      )
  else
    some (.inr (.inr (.inr ((stateMany_, d_, named_, values_, truth_, states_, camesFrom_, cameBy_, chain_, chains_)))))
def f_m_findGoal (b_ : Int32) (stateMany_ : Int32) (a_ : Nat → Int32) (d_ : Nat → Int32) (texts_ : Nat → Int32) (named_ : Nat → Int32) (values_ : Nat → Int64) (truth_ : Nat → Int32) (states_ : Nat → Int32) (camesFrom_ : Nat → Int32) (cameBy_ : Nat → Int32) (chain_ : Nat → Int32) (chains_ : Nat → Int32) (l1 : Int32) (l2 : Int32) (l3 : Int32) (l4 : Int32) : Option ((Int32 × Int32 × Int32 × (Nat → Int32) × (Nat → Int32) × (Nat → Int64) × (Nat → Int32) × (Nat → Int32) × (Nat → Int32) × (Nat → Int32) × (Nat → Int32) × (Nat → Int32))) :=
  (itr (un2 fb_m_findGoal_3) KF (0, chains_)).bind
    (fun chains_3 =>
      (f_m_copy d_ 0 2).bind (fun d_4 =>
      (f_m_tries b_ 2).bind (fun b_5 =>
      (f_m_sumOf b_5 d_4).bind (fun r6 =>
      (f_m_addState b_5 0 d_4 states_ camesFrom_ cameBy_ chain_ chains_3 r6 (-1) (-1)).bind (un6 fun stateMany_7 states_8 camesFrom_9 cameBy_10 chain_11 chains_12 =>
      (f_m_isGoal b_5 a_ d_4 l1 l2 l3).bind (fun r13 =>
      if r13 = 0 then
        (itr (un11 (fb_m_findGoal_66 b_5 a_ texts_ l1 l2 l3 l4)) KF (0, stateMany_7, d_4, named_, values_, truth_, states_8, camesFrom_9, cameBy_10, chain_11, chains_12)).bind
          (Sum.elim
            (un10 fun stateMany_71 d_72 named_73 values_74 truth_75 states_76 camesFrom_77 cameBy_78 chain_79 chains_80 =>
              some ((-2), b_5, stateMany_71, d_72, named_73, values_74, truth_75, states_76, camesFrom_77, cameBy_78, chain_79, chains_80)
            )
            (Sum.elim
              (un10 fun stateMany_81 d_82 named_83 values_84 truth_85 states_86 camesFrom_87 cameBy_88 chain_89 chains_90 =>
                some (stateMany_81 - 1, b_5, stateMany_81, d_82, named_83, values_84, truth_85, states_86, camesFrom_87, cameBy_88, chain_89, chains_90)
              )
              (un10 fun stateMany_91 d_92 named_93 values_94 truth_95 states_96 camesFrom_97 cameBy_98 chain_99 chains_100 =>
                some ((-1), b_5, stateMany_91, d_92, named_93, values_94, truth_95, states_96, camesFrom_97, cameBy_98, chain_99, chains_100)
              )
            )
          )
      else
        some (0, b_5, stateMany_7, d_4, named_, values_, truth_, states_8, camesFrom_9, cameBy_10, chain_11, chains_12))))))
    )
def f_m_isSet (a_ : Nat → Int32) (l1 : Int32) : Option (Int32) :=
  (f_m_isIn l1 0 ((1 <<< ((a_ 0) &&& 31)) - 1)).bind (fun r1 =>
  if bz r1 then
    some r1
  else none)
def f_m_areTwo (a_ : Nat → Int32) (d_ : Nat → Int32) (l1 : Int32) (l2 : Int32) : Option (Int32) :=
  (f_m_isPerson a_ l1).bind (fun r1 =>
  if r1 = 0 then
    some 0
  else
    (f_m_isPerson a_ l2).bind (fun r2 =>
    if r2 = 0 then
      some 0
    else
      if l1 = l2 then
        some 0
      else
        if inb l1 560 then
          if (d_ (ix l1)) < 0 then
            some 0
          else
            if inb l2 560 then
              if (d_ (ix l2)) < 0 then
                some 0
              else
                some 1
            else none
        else none))
def fb_m_fewest_93 (camesFrom_ : Nat → Int32) (cameBy_ : Nat → Int32) (l7 : Int32) (l8 : Int32) (path_ : Nat → Int32) : Option ((Int32 × Int32 × (Nat → Int32)) ⊕ (Int32 × (Nat → Int32))) :=
  if 0 < l8 then
    if inb l8 3001 then
      if inb l7 3001 then
        bnd (upd path_ (ix l7) (cameBy_ (ix l8)) : Nat → Int32) fun path_18 =>
        if inb l8 3001 then
          some (.inl (l7 + 1, camesFrom_ (ix l8), path_18))
        else none
      else none
    else none
  else
    some (.inr (l7, path_))
def fj_m_fewest_62 (b_ : Int32) (stateMany_ : Int32) (a_ : Nat → Int32) (d_ : Nat → Int32) (texts_ : Nat → Int32) (named_ : Nat → Int32) (values_ : Nat → Int64) (truth_ : Nat → Int32) (states_ : Nat → Int32) (camesFrom_ : Nat → Int32) (cameBy_ : Nat → Int32) (chain_ : Nat → Int32) (chains_ : Nat → Int32) (path_ : Nat → Int32) (l1 : Int32) (l2 : Int32) (l3 : Int32) (l4 : Int32) (l5 : Int32) : Option ((Int32 × Int32 × Int32 × (Nat → Int32) × (Nat → Int32) × (Nat → Int64) × (Nat → Int32) × (Nat → Int32) × (Nat → Int32) × (Nat → Int32) × (Nat → Int32) × (Nat → Int32) × (Nat → Int32))) :=
  (f_m_findGoal b_ stateMany_ a_ d_ texts_ named_ values_ truth_ states_ camesFrom_ cameBy_ chain_ chains_ l1 l2 l3 l4).bind (un12 fun r3 b_4 stateMany_5 d_6 named_7 values_8 truth_9 states_10 camesFrom_11 cameBy_12 chain_13 chains_14 =>
  (f_m_tries b_4 0).bind (fun b_15 =>
  if r3 < 0 then
    some (r3, b_15, stateMany_5, d_6, named_7, values_8, truth_9, states_10, camesFrom_11, cameBy_12, chain_13, chains_14, path_)
  else
    (itr (un3 (fb_m_fewest_93 camesFrom_11 cameBy_12)) KF (0, r3, path_)).bind
      (un2 fun l7_20 path_21 =>
        if l5 = (-1) then
          some (l7_20, b_15, stateMany_5, d_6, named_7, values_8, truth_9, states_10, camesFrom_11, cameBy_12, chain_13, chains_14, path_21)
        else
          if l5 < l7_20 then
            if inb ((l7_20 - 1) - l5) 3001 then
              some (path_21 (ix ((l7_20 - 1) - l5)), b_15, stateMany_5, d_6, named_7, values_8, truth_9, states_10, camesFrom_11, cameBy_12, chain_13, chains_14, path_21)
            else none
          else
            some ((-1), b_15, stateMany_5, d_6, named_7, values_8, truth_9, states_10, camesFrom_11, cameBy_12, chain_13, chains_14, path_21)
      )))
def fj_m_fewest_46 (b_ : Int32) (stateMany_ : Int32) (a_ : Nat → Int32) (d_ : Nat → Int32) (texts_ : Nat → Int32) (named_ : Nat → Int32) (values_ : Nat → Int64) (truth_ : Nat → Int32) (states_ : Nat → Int32) (camesFrom_ : Nat → Int32) (cameBy_ : Nat → Int32) (chain_ : Nat → Int32) (chains_ : Nat → Int32) (path_ : Nat → Int32) (l1 : Int32) (l2 : Int32) (l3 : Int32) (l4 : Int32) (l5 : Int32) : Option ((Int32 × Int32 × Int32 × (Nat → Int32) × (Nat → Int32) × (Nat → Int64) × (Nat → Int32) × (Nat → Int32) × (Nat → Int32) × (Nat → Int32) × (Nat → Int32) × (Nat → Int32) × (Nat → Int32))) :=
  if l1 = 1 then
    (f_m_areTwo a_ d_ l2 l3).bind (fun r25 =>
    if r25 = 0 then
      some ((-1), b_, stateMany_, d_, named_, values_, truth_, states_, camesFrom_, cameBy_, chain_, chains_, path_)
    else
      fj_m_fewest_62 b_ stateMany_ a_ d_ texts_ named_ values_ truth_ states_ camesFrom_ cameBy_ chain_ chains_ path_ l1 l2 l3 l4 l5)
  else
    fj_m_fewest_62 b_ stateMany_ a_ d_ texts_ named_ values_ truth_ states_ camesFrom_ cameBy_ chain_ chains_ path_ l1 l2 l3 l4 l5
def f_m_fewest (b_ : Int32) (stateMany_ : Int32) (a_ : Nat → Int32) (d_ : Nat → Int32) (texts_ : Nat → Int32) (named_ : Nat → Int32) (values_ : Nat → Int64) (truth_ : Nat → Int32) (states_ : Nat → Int32) (camesFrom_ : Nat → Int32) (cameBy_ : Nat → Int32) (chain_ : Nat → Int32) (chains_ : Nat → Int32) (path_ : Nat → Int32) (l1 : Int32) (l2 : Int32) (l3 : Int32) (l4 : Int32) (l5 : Int32) : Option ((Int32 × Int32 × Int32 × (Nat → Int32) × (Nat → Int32) × (Nat → Int64) × (Nat → Int32) × (Nat → Int32) × (Nat → Int32) × (Nat → Int32) × (Nat → Int32) × (Nat → Int32) × (Nat → Int32))) :=
  (f_m_isIn l1 0 2).bind (fun r1 =>
  if r1 = 0 then
    some ((-1), b_, stateMany_, d_, named_, values_, truth_, states_, camesFrom_, cameBy_, chain_, chains_, path_)
  else
    (f_m_isSet a_ l4).bind (fun r2 =>
    if r2 = 0 then
      some ((-1), b_, stateMany_, d_, named_, values_, truth_, states_, camesFrom_, cameBy_, chain_, chains_, path_)
    else
      if l5 < (-1) then
        some ((-1), b_, stateMany_, d_, named_, values_, truth_, states_, camesFrom_, cameBy_, chain_, chains_, path_)
      else
        if l1 = 0 then
          (f_m_isPerson a_ l2).bind (fun r27 =>
          if r27 = 0 then
            some ((-1), b_, stateMany_, d_, named_, values_, truth_, states_, camesFrom_, cameBy_, chain_, chains_, path_)
          else
            (f_m_isIn l3 0 7).bind (fun r28 =>
            if r28 = 0 then
              some ((-1), b_, stateMany_, d_, named_, values_, truth_, states_, camesFrom_, cameBy_, chain_, chains_, path_)
            else
              fj_m_fewest_46 b_ stateMany_ a_ d_ texts_ named_ values_ truth_ states_ camesFrom_ cameBy_ chain_ chains_ path_ l1 l2 l3 l4 l5))
        else
          fj_m_fewest_46 b_ stateMany_ a_ d_ texts_ named_ values_ truth_ states_ camesFrom_ cameBy_ chain_ chains_ path_ l1 l2 l3 l4 l5))
def fj_m_third_65_23 (b_ : Int32) (stateMany_ : Int32) (a_ : Nat → Int32) (d_ : Nat → Int32) (texts_ : Nat → Int32) (named_ : Nat → Int32) (values_ : Nat → Int64) (truth_ : Nat → Int32) (states_ : Nat → Int32) (camesFrom_ : Nat → Int32) (cameBy_ : Nat → Int32) (chain_ : Nat → Int32) (chains_ : Nat → Int32) (l1 : Int32) (l2 : Int32) (l3 : Int32) (l4 : Int32) : Option ((Int32 × Int32 × Int32 × Int32 × (Nat → Int32) × (Nat → Int32) × (Nat → Int64) × (Nat → Int32) × (Nat → Int32) × (Nat → Int32) × (Nat → Int32) × (Nat → Int32) × (Nat → Int32)) ⊕ (Int32 × Int32 × Int32 × (Nat → Int32) × (Nat → Int32) × (Nat → Int64) × (Nat → Int32) × (Nat → Int32) × (Nat → Int32) × (Nat → Int32) × (Nat → Int32) × (Nat → Int32))) :=
  (f_m_tries b_ 0).bind (fun b_2 =>
  some (.inl (l3, l4 + (-1), b_2, stateMany_, d_, named_, values_, truth_, states_, camesFrom_, cameBy_, chain_, chains_)))
def fb_m_third_23 (a_ : Nat → Int32) (texts_ : Nat → Int32) (l1 : Int32) (l2 : Int32) (l3 : Int32) (l4 : Int32) (b_ : Int32) (stateMany_ : Int32) (d_ : Nat → Int32) (named_ : Nat → Int32) (values_ : Nat → Int64) (truth_ : Nat → Int32) (states_ : Nat → Int32) (camesFrom_ : Nat → Int32) (cameBy_ : Nat → Int32) (chain_ : Nat → Int32) (chains_ : Nat → Int32) : Option ((Int32 × Int32 × Int32 × Int32 × (Nat → Int32) × (Nat → Int32) × (Nat → Int64) × (Nat → Int32) × (Nat → Int32) × (Nat → Int32) × (Nat → Int32) × (Nat → Int32) × (Nat → Int32)) ⊕ (Int32 × Int32 × Int32 × (Nat → Int32) × (Nat → Int32) × (Nat → Int64) × (Nat → Int32) × (Nat → Int32) × (Nat → Int32) × (Nat → Int32) × (Nat → Int32) × (Nat → Int32))) :=
  if l4 < 0 then
    some (.inr (l3, b_, stateMany_, d_, named_, values_, truth_, states_, camesFrom_, cameBy_, chain_, chains_))
  else
    if l4 = l1 then
      fj_m_third_65_23 b_ stateMany_ a_ d_ texts_ named_ values_ truth_ states_ camesFrom_ cameBy_ chain_ chains_ l1 l2 l3 l4
    else
      if l4 = l2 then
        fj_m_third_65_23 b_ stateMany_ a_ d_ texts_ named_ values_ truth_ states_ camesFrom_ cameBy_ chain_ chains_ l1 l2 l3 l4
      else
        (f_m_findGoal b_ stateMany_ a_ d_ texts_ named_ values_ truth_ states_ camesFrom_ cameBy_ chain_ chains_ 1 l1 l2 (((1 <<< (l1 &&& 31)) ||| (1 <<< (l2 &&& 31))) ||| (1 <<< (l4 &&& 31)))).bind (un12 fun r4 b_5 stateMany_6 d_7 named_8 values_9 truth_10 states_11 camesFrom_12 cameBy_13 chain_14 chains_15 =>
        if r4 < 0 then
          fj_m_third_65_23 b_5 stateMany_6 a_ d_7 texts_ named_8 values_9 truth_10 states_11 camesFrom_12 cameBy_13 chain_14 chains_15 l1 l2 l3 l4
        else
          fj_m_third_65_23 b_5 stateMany_6 a_ d_7 texts_ named_8 values_9 truth_10 states_11 camesFrom_12 cameBy_13 chain_14 chains_15 l1 l2 l4 l4)
def f_m_third (b_ : Int32) (stateMany_ : Int32) (a_ : Nat → Int32) (d_ : Nat → Int32) (texts_ : Nat → Int32) (named_ : Nat → Int32) (values_ : Nat → Int64) (truth_ : Nat → Int32) (states_ : Nat → Int32) (camesFrom_ : Nat → Int32) (cameBy_ : Nat → Int32) (chain_ : Nat → Int32) (chains_ : Nat → Int32) (l1 : Int32) (l2 : Int32) : Option ((Int32 × Int32 × Int32 × (Nat → Int32) × (Nat → Int32) × (Nat → Int64) × (Nat → Int32) × (Nat → Int32) × (Nat → Int32) × (Nat → Int32) × (Nat → Int32) × (Nat → Int32))) :=
  (f_m_areTwo a_ d_ l1 l2).bind (fun r1 =>
  if r1 = 0 then
    some ((-1), b_, stateMany_, d_, named_, values_, truth_, states_, camesFrom_, cameBy_, chain_, chains_)
  else
    (itr (un13 (fb_m_third_23 a_ texts_ l1 l2)) KF ((-1), (a_ 0) - 1, b_, stateMany_, d_, named_, values_, truth_, states_, camesFrom_, cameBy_, chain_, chains_)).bind
      (un12 fun l3_17 b_18 stateMany_19 d_20 named_21 values_22 truth_23 states_24 camesFrom_25 cameBy_26 chain_27 chains_28 =>
        some (l3_17, b_18, stateMany_19, d_20, named_21, values_22, truth_23, states_24, camesFrom_25, cameBy_26, chain_27, chains_28)
      ))
def fb_m_nextOrder_4 (order_ : Nat → Int32) (l2 : Int32) : Option (Int32 ⊕ Int32) :=
  if l2 < 0 then
    some (.inr l2)
  else
    if inb l2 6 then
      if inb (l2 + 1) 6 then
        if (order_ (ix (l2 + 1))) < (order_ (ix l2)) then
          some (.inl (l2 + (-1)))
        else
          some (.inr l2)
      else none
    else none
def fb_m_nextOrder_41 (order_ : Nat → Int32) (l2 : Int32) (l3 : Int32) : Option (Int32 ⊕ Int32) :=
  if inb l3 6 then
    if inb l2 6 then
      if (order_ (ix l3)) < (order_ (ix l2)) then
        some (.inl (l3 + (-1)))
      else
        some (.inr l3)
    else none
  else none
def fb_m_nextOrder_100 (l5 : Int32) (l6 : Int32) (order_ : Nat → Int32) : Option ((Int32 × Int32 × (Nat → Int32)) ⊕ (Nat → Int32)) :=
  if l5 < l6 then
    if inb l5 6 then
      if inb l6 6 then
        if inb l5 6 then
          bnd (upd order_ (ix l5) (order_ (ix l6)) : Nat → Int32) fun order_16 =>
          if inb l6 6 then
            bnd (upd order_16 (ix l6) (order_ (ix l5)) : Nat → Int32) fun order_18 =>
            some (.inl (l5 + 1, l6 + (-1), order_18))
          else none
        else none
      else none
    else none
  else
    some (.inr order_)
def fj_m_nextOrder_31 (order_ : Nat → Int32) (l1 : Int32) (l2 : Int32) : Option ((Int32 × (Nat → Int32))) :=
  if l2 < 0 then
    some (0, order_)
  else
    (itr (fb_m_nextOrder_41 order_ l2) KF (l1 - 1)).bind
      (fun l3_6 =>
        if inb l2 6 then
          if inb l3_6 6 then
            if inb l2 6 then
              bnd (upd order_ (ix l2) (order_ (ix l3_6)) : Nat → Int32) fun order_10 =>
              if inb l3_6 6 then
                bnd (upd order_10 (ix l3_6) (order_ (ix l2)) : Nat → Int32) fun order_12 =>
                (itr (un3 fb_m_nextOrder_100) KF (l2 + 1, l1 - 1, order_12)).bind
                  (fun order_19 =>
                    some (1, order_19)
                  )
              else none
            else none
          else none
        else none
      )
def f_m_nextOrder (order_ : Nat → Int32) (l1 : Int32) : Option ((Int32 × (Nat → Int32))) :=
  (itr (fb_m_nextOrder_4 order_) KF (l1 - 2)).bind
    (fun l2_3 =>
      fj_m_nextOrder_31 order_ l1 l2_3
    )
def fb_m_left_42 (a_ : Nat → Int32) (d_ : Nat → Int32) (l4 : Int32) (l5 : Int32) (order_ : Nat → Int32) : Option ((Int32 × Int32 × (Nat → Int32)) ⊕ ((Nat → Int32) ⊕ (Int32 × (Nat → Int32)))) :=
  if l5 < (a_ 0) then
    if inb l5 560 then
      if (d_ (ix l5)) < 0 then
        if l4 = 6 then
          some (.inr (.inl order_))
        else
          if inb l4 6 then
            bnd (upd order_ (ix l4) l5 : Nat → Int32) fun order_7 =>
            some (.inl (l4 + 1, l5 + 1, order_7))
          else none
      else
        some (.inl (l4, l5 + 1, order_))
    else none
  else
    some (.inr (.inr ((l4, order_))))
def fb_m_left_118 (b_ : Int32) (a_ : Nat → Int32) (texts_ : Nat → Int32) (order_ : Nat → Int32) (l1 : Int32) (l4 : Int32) (l7 : Int32) (d_ : Nat → Int32) (named_ : Nat → Int32) (values_ : Nat → Int64) (truth_ : Nat → Int32) : Option ((Int32 × (Nat → Int32) × (Nat → Int32) × (Nat → Int64) × (Nat → Int32)) ⊕ ((Nat → Int32) × (Nat → Int32) × (Nat → Int64) × (Nat → Int32))) :=
  if l7 < l4 then
    if inb l7 6 then
      (f_m_goes b_ a_ d_ texts_ named_ values_ truth_ (order_ (ix l7)) l1).bind (un5 fun r14 d_15 named_16 values_17 truth_18 =>
      some (.inl (l7 + 1, d_15, named_16, values_17, truth_18)))
    else none
  else
    some (.inr (d_, named_, values_, truth_))
def fj_m_left_161_99 (b_ : Int32) (a_ : Nat → Int32) (d_ : Nat → Int32) (texts_ : Nat → Int32) (named_ : Nat → Int32) (values_ : Nat → Int64) (truth_ : Nat → Int32) (order_ : Nat → Int32) (l1 : Int32) (l2 : Int32) (l3 : Int32) (l4 : Int32) (s0 : Int32) (s1 : Int32) : Option ((Int32 × Int32 × Int32 × (Nat → Int32) × (Nat → Int32) × (Nat → Int64) × (Nat → Int32) × (Nat → Int32)) ⊕ (Int32 × Int32 × (Nat → Int32) × (Nat → Int32) × (Nat → Int64) × (Nat → Int32) × (Nat → Int32))) :=
  (f_m_nextOrder order_ l4).bind (un2 fun r25 order_26 =>
  some (.inl (s0 + s1, r25, b_, d_, named_, values_, truth_, order_26)))
def fb_m_left_99 (a_ : Nat → Int32) (texts_ : Nat → Int32) (l1 : Int32) (l2 : Int32) (l3 : Int32) (l4 : Int32) (l5 : Int32) (l6 : Int32) (b_ : Int32) (d_ : Nat → Int32) (named_ : Nat → Int32) (values_ : Nat → Int64) (truth_ : Nat → Int32) (order_ : Nat → Int32) : Option ((Int32 × Int32 × Int32 × (Nat → Int32) × (Nat → Int32) × (Nat → Int64) × (Nat → Int32) × (Nat → Int32)) ⊕ (Int32 × Int32 × (Nat → Int32) × (Nat → Int32) × (Nat → Int64) × (Nat → Int32) × (Nat → Int32))) :=
  if l6 = 0 then
    some (.inr (l5, b_, d_, named_, values_, truth_, order_))
  else
    (f_m_copy d_ 0 2).bind (fun d_11 =>
    (f_m_tries b_ 2).bind (fun b_12 =>
    (itr (un5 (fb_m_left_118 b_12 a_ texts_ order_ l1 l4)) KF (0, d_11, named_, values_, truth_)).bind
      (un4 fun d_20 named_21 values_22 truth_23 =>
        (f_m_nameAt b_12 d_20 l2).bind (fun r24 =>
        if r24 = l3 then
          fj_m_left_161_99 b_12 a_ d_20 texts_ named_21 values_22 truth_23 order_ l1 l2 l3 l4 l5 1
        else
          fj_m_left_161_99 b_12 a_ d_20 texts_ named_21 values_22 truth_23 order_ l1 l2 l3 l4 l5 0)
      )))
def f_m_left (b_ : Int32) (a_ : Nat → Int32) (d_ : Nat → Int32) (texts_ : Nat → Int32) (named_ : Nat → Int32) (values_ : Nat → Int64) (truth_ : Nat → Int32) (order_ : Nat → Int32) (l1 : Int32) (l2 : Int32) (l3 : Int32) : Option ((Int32 × Int32 × (Nat → Int32) × (Nat → Int32) × (Nat → Int64) × (Nat → Int32) × (Nat → Int32))) :=
  (f_m_isGate a_ l1).bind (fun r1 =>
  if r1 = 0 then
    some ((-1), b_, d_, named_, values_, truth_, order_)
  else
    (f_m_isLot a_ l1).bind (fun r2 =>
    if r2 = 0 then
      (f_m_isPerson a_ l2).bind (fun r3 =>
      if r3 = 0 then
        some ((-1), b_, d_, named_, values_, truth_, order_)
      else
        (f_m_isIn l3 (-1) 7).bind (fun r4 =>
        if r4 = 0 then
          some ((-1), b_, d_, named_, values_, truth_, order_)
        else
          (itr (un3 (fb_m_left_42 a_ d_)) KF (0, 0, order_)).bind
            (Sum.elim
              (fun order_8 =>
                some ((-1), b_, d_, named_, values_, truth_, order_8)
              )
              (un2 fun l4_9 order_10 =>
                (itr (un8 (fb_m_left_99 a_ texts_ l1 l2 l3 l4_9)) KF (0, 1, b_, d_, named_, values_, truth_, order_10)).bind
                  (un7 fun l5_31 b_32 d_33 named_34 values_35 truth_36 order_37 =>
                    (f_m_tries b_32 0).bind (fun b_38 =>
                    some (l5_31, b_38, d_33, named_34, values_35, truth_36, order_37))
                  )
              )
            )))
    else
      some ((-1), b_, d_, named_, values_, truth_, order_)))
def fb_m_thief_64 (b_ : Int32) (a_ : Nat → Int32) (texts_ : Nat → Int32) (l1 : Int32) (l5 : Int32) (l7 : Int32) (l8 : Int32) (l9 : Int32) (d_ : Nat → Int32) (named_ : Nat → Int32) (values_ : Nat → Int64) (truth_ : Nat → Int32) : Option ((Int32 × Int32 × Int32 × (Nat → Int32) × (Nat → Int32) × (Nat → Int64) × (Nat → Int32)) ⊕ (Int32 × (Nat → Int32) × (Nat → Int32) × (Nat → Int64) × (Nat → Int32))) :=
  if l9 < l5 then
    if l8 = 0 then
      some (.inr (l8, d_, named_, values_, truth_))
    else
      (f_m_isGate a_ (rem32 l7 3)).bind (fun r5 =>
      if r5 = 0 then
        some (.inl (l7 / 3, 0, l9 + 1, d_, named_, values_, truth_))
      else
        (f_m_isLot a_ (rem32 l7 3)).bind (fun r6 =>
        if r6 = 0 then
          (f_m_goes b_ a_ d_ texts_ named_ values_ truth_ l1 (rem32 l7 3)).bind (un5 fun r7 d_8 named_9 values_10 truth_11 =>
          if r7 = 0 then
            some (.inl (l7 / 3, 0, l9 + 1, d_8, named_9, values_10, truth_11))
          else
            some (.inl (l7 / 3, 1, l9 + 1, d_8, named_9, values_10, truth_11)))
        else
          some (.inl (l7 / 3, 0, l9 + 1, d_, named_, values_, truth_))))
  else
    some (.inr (l8, d_, named_, values_, truth_))
def fj_m_thief_129_36 (b_ : Int32) (a_ : Nat → Int32) (d_ : Nat → Int32) (texts_ : Nat → Int32) (named_ : Nat → Int32) (values_ : Nat → Int64) (truth_ : Nat → Int32) (l1 : Int32) (l3 : Int32) (l4 : Int32) (l5 : Int32) (l6 : Int32) (l8 : Int32) : Option ((Int32 × Int32 × Int32 × (Nat → Int32) × (Nat → Int32) × (Nat → Int64) × (Nat → Int32)) ⊕ (Int32 × Int32 × (Nat → Int32) × (Nat → Int32) × (Nat → Int64) × (Nat → Int32))) :=
  if l8 = 0 then
    some (.inl (l3, l6 + 1, b_, d_, named_, values_, truth_))
  else
    (f_m_nameAt b_ d_ l1).bind (fun r20 =>
    if r20 < 0 then
      some (.inl (l3, l6 + 1, b_, d_, named_, values_, truth_))
    else
      (f_m_nameAt b_ d_ l1).bind (fun r21 =>
      (f_m_owesOf a_ r21).bind (fun r22 =>
      if l3 < 0 then
        some (.inl (r22, l6 + 1, b_, d_, named_, values_, truth_))
      else
        if r22 < l3 then
          some (.inl (r22, l6 + 1, b_, d_, named_, values_, truth_))
        else
          some (.inl (l3, l6 + 1, b_, d_, named_, values_, truth_)))))
def fb_m_thief_36 (a_ : Nat → Int32) (texts_ : Nat → Int32) (l1 : Int32) (l4 : Int32) (l5 : Int32) (l3 : Int32) (l6 : Int32) (b_ : Int32) (d_ : Nat → Int32) (named_ : Nat → Int32) (values_ : Nat → Int64) (truth_ : Nat → Int32) : Option ((Int32 × Int32 × Int32 × (Nat → Int32) × (Nat → Int32) × (Nat → Int64) × (Nat → Int32)) ⊕ (Int32 × Int32 × (Nat → Int32) × (Nat → Int32) × (Nat → Int64) × (Nat → Int32))) :=
  if l6 < l4 then
    (f_m_copy d_ 0 2).bind (fun d_3 =>
    (f_m_tries b_ 2).bind (fun b_4 =>
    (itr (un7 (fb_m_thief_64 b_4 a_ texts_ l1 l5)) KF (l6, 1, 0, d_3, named_, values_, truth_)).bind
      (un5 fun l8_15 d_16 named_17 values_18 truth_19 =>
        fj_m_thief_129_36 b_4 a_ d_16 texts_ named_17 values_18 truth_19 l1 l3 l4 l5 l6 l8_15
      )))
  else
    some (.inr (l3, b_, d_, named_, values_, truth_))
def fb_m_thief_27 (a_ : Nat → Int32) (texts_ : Nat → Int32) (l1 : Int32) (l2 : Int32) (l3 : Int32) (l4 : Int32) (l5 : Int32) (b_ : Int32) (d_ : Nat → Int32) (named_ : Nat → Int32) (values_ : Nat → Int64) (truth_ : Nat → Int32) : Option ((Int32 × Int32 × Int32 × Int32 × (Nat → Int32) × (Nat → Int32) × (Nat → Int64) × (Nat → Int32)) ⊕ (Int32 × Int32 × (Nat → Int32) × (Nat → Int32) × (Nat → Int64) × (Nat → Int32))) :=
  if l2 < l5 then
    some (.inr (l3, b_, d_, named_, values_, truth_))
  else
    (itr (un7 (fb_m_thief_36 a_ texts_ l1 l4 l5)) KF (l3, 0, b_, d_, named_, values_, truth_)).bind
      (un6 fun l3_28 b_29 d_30 named_31 values_32 truth_33 =>
        some (.inl (l3_28, l4 * 3, l5 + 1, b_29, d_30, named_31, values_32, truth_33))
      )
def f_m_thief (b_ : Int32) (a_ : Nat → Int32) (d_ : Nat → Int32) (texts_ : Nat → Int32) (named_ : Nat → Int32) (values_ : Nat → Int64) (truth_ : Nat → Int32) (l1 : Int32) (l2 : Int32) : Option ((Int32 × Int32 × (Nat → Int32) × (Nat → Int32) × (Nat → Int64) × (Nat → Int32))) :=
  (f_m_isPerson a_ l1).bind (fun r1 =>
  if r1 = 0 then
    some ((-1), b_, d_, named_, values_, truth_)
  else
    (f_m_isIn l2 0 4).bind (fun r2 =>
    if r2 = 0 then
      some ((-1), b_, d_, named_, values_, truth_)
    else
      (itr (un8 (fb_m_thief_27 a_ texts_ l1 l2)) KF ((-1), 1, 0, b_, d_, named_, values_, truth_)).bind
        (un6 fun l3_34 b_35 d_36 named_37 values_38 truth_39 =>
          (f_m_tries b_35 0).bind (fun b_40 =>
          some (l3_34, b_40, d_36, named_37, values_38, truth_39))
        )))
def f_m_seed (a_ : Nat → Int32) (l1 : Int32) : Option ((Int32 × (Nat → Int32))) :=
  (f_m_isIn l1 0 9999).bind (fun r1 =>
  if r1 = 0 then
    some (0, a_)
  else
    bnd (upd a_ 8 ((l1 * 11) + 5) : Nat → Int32) fun a_2 =>
    some (1, a_2))
def fb_m_days_34 (b_ : Int32) (texts_ : Nat → Int32) (l1 : Int32) (l2 : Int32) (l3 : Int32) (a_ : Nat → Int32) (d_ : Nat → Int32) (named_ : Nat → Int32) (values_ : Nat → Int64) (truth_ : Nat → Int32) : Option ((Int32 × Int32 × (Nat → Int32) × (Nat → Int32) × (Nat → Int32) × (Nat → Int64) × (Nat → Int32)) ⊕ (Int32 × (Nat → Int32) × (Nat → Int32) × (Nat → Int32) × (Nat → Int64) × (Nat → Int32))) :=
  if l3 < l1 then
    (f_m_draw a_ (a_ 0)).bind (un2 fun r2 a_3 =>
    (f_m_draw a_3 (a_3 1)).bind (un2 fun r4 a_5 =>
    (f_m_go b_ a_5 d_ texts_ named_ values_ truth_ r2 r4).bind (un6 fun r6 a_7 d_8 named_9 values_10 truth_11 =>
    if r6 < 0 then
      some (.inl (l2 + 0, l3 + 1, a_7, d_8, named_9, values_10, truth_11))
    else
      some (.inl (l2 + 1, l3 + 1, a_7, d_8, named_9, values_10, truth_11)))))
  else
    some (.inr (l2, a_, d_, named_, values_, truth_))
def f_m_days (b_ : Int32) (a_ : Nat → Int32) (d_ : Nat → Int32) (texts_ : Nat → Int32) (named_ : Nat → Int32) (values_ : Nat → Int64) (truth_ : Nat → Int32) (l1 : Int32) : Option ((Int32 × (Nat → Int32) × (Nat → Int32) × (Nat → Int32) × (Nat → Int64) × (Nat → Int32))) :=
  (f_m_isIn l1 1 100).bind (fun r1 =>
  if r1 = 0 then
    some ((-1), a_, d_, named_, values_, truth_)
  else
    if (a_ 0) = 0 then
      some ((-1), a_, d_, named_, values_, truth_)
    else
      if (a_ 1) = 0 then
        some ((-1), a_, d_, named_, values_, truth_)
      else
        (itr (un7 (fb_m_days_34 b_ texts_ l1)) KF (0, 0, a_, d_, named_, values_, truth_)).bind
          (un6 fun l2_15 a_16 d_17 named_18 values_19 truth_20 =>
            some (l2_15, a_16, d_17, named_18, values_19, truth_20)
          ))
def f_m_image (a_ : Nat → Int32) (image_ : Nat → Int32) (d_ : Nat → Int32) : Option ((Int32 × (Nat → Int32) × (Nat → Int32))) :=
  (f_m_keep a_ image_ d_).bind (un2 fun image_1 d_2 =>
  some (a_ 0, image_1, d_2))
def fb_m_back_2 (image_ : Nat → Int32) (l1 : Int32) (a_ : Nat → Int32) : Option ((Int32 × (Nat → Int32)) ⊕ (Nat → Int32)) :=
  if l1 < 145 then
    if inb l1 145 then
      if inb l1 145 then
        bnd (upd a_ (ix l1) (image_ (ix l1)) : Nat → Int32) fun a_3 =>
        some (.inl (l1 + 1, a_3))
      else none
    else none
  else
    some (.inr a_)
def f_m_back (a_ : Nat → Int32) (image_ : Nat → Int32) (d_ : Nat → Int32) : Option ((Int32 × (Nat → Int32) × (Nat → Int32))) :=
  (itr (un2 (fb_m_back_2 image_)) KF (0, a_)).bind
    (fun a_4 =>
      (f_m_copy d_ 1 0).bind (fun d_5 =>
      some (a_4 0, a_4, d_5))
    )
def fb_m_about_4 (a_ : Nat → Int32) (d_ : Nat → Int32) (l2 : Int32) (l3 : Int32) : Option ((Int32 × Int32) ⊕ Int32) :=
  if l3 < (a_ 0) then
    if inb l3 560 then
      if (d_ (ix l3)) < 0 then
        some (.inl (l2 + 0, l3 + 1))
      else
        some (.inl (l2 + 1, l3 + 1))
    else none
  else
    some (.inr l2)
def f_m_about (taped_ : Int32) (a_ : Nat → Int32) (d_ : Nat → Int32) (l1 : Int32) : Option (Int32) :=
  (itr (un2 (fb_m_about_4 a_ d_)) KF (0, 0)).bind
    (fun l2_2 =>
      if l1 = 0 then
        some (a_ 0)
      else
        if l1 = 1 then
          some (a_ 1)
        else
          if l1 = 2 then
            some (a_ 2)
          else
            if l1 = 3 then
              some (a_ 3)
            else
              if l1 = 4 then
                some (a_ 4)
              else
                if l1 = 5 then
                  some (a_ 5)
                else
                  if l1 = 6 then
                    some (a_ 6)
                  else
                    if l1 = 7 then
                      some (a_ 7)
                    else
                      if l1 = 8 then
                        some taped_
                      else
                        if l1 = 9 then
                          some l2_2
                        else
                          if l1 = 10 then
                            some (a_ 8)
                          else
                            some (-2)
    )
