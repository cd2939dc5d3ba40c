/-! THE REFERENCE, decompiled, by program -/
noncomputable def f_X12_isIn (v0 : Int64) (v2 : Int64) (v4 : Int64) (σ : fhM) : Bool :=
  if (lg_cmp v0 v2) < 0 then
    false
  else
    if 0 < (lg_cmp v0 v4) then
      false
    else
      true
noncomputable def f_X12_isOne (v0 : Int32) (σ : fhM) : Bool :=
  if v0 = 0 then
    false
  else
    if (v0 &&& (v0 - (1 : Int32))) = 0 then
      true
    else
      false
noncomputable def f_X12_feed_81 (v1 : Int32) (v2 : Int32) (v3 : Int32) (v4 : Int32) (v5 : Int32) (v6 : Int32) (s0 : Int32) (σ : fhM) : Option ((Int32 × fhM) ⊕ (Int32 × fhM)) :=
  if (fhin (σ.1 0 1) 1600 && true) = true then
  some (.inl ((v6 + (1 : Int32)), (fhI (fhI σ 1 (fhix (σ.1 0 1)) ((s0 >>> (((8 : Int32) * ((3 : Int32) - (fhrem v6 (4 : Int32)))) &&& 31)) &&& (255 : Int32))) 0 1 ((σ.1 0 1) + (1 : Int32)))))
  else none
noncomputable def f_X12_feed_28 (v1 : Int32) (v2 : Int32) (v3 : Int32) (v4 : Int32) (v5 : Int32) (v6 : Int32) (σ : fhM) : Option ((Int32 × fhM) ⊕ (Int32 × fhM)) :=
  if (20 : Int32) ≤ v6 then
    some (.inr ((σ.1 0 1), σ))
  else
    f_X12_feed_81 v1 v2 v3 v4 v5 v6 (if (4 : Int32) ≤ v6 then (if (8 : Int32) ≤ v6 then (if (12 : Int32) ≤ v6 then (if (16 : Int32) ≤ v6 then v5 else v4) else v3) else v2) else v1) σ
noncomputable def f_X12_feed (v1 : Int32) (v2 : Int32) (v3 : Int32) (v4 : Int32) (v5 : Int32) (σ : fhM) : Option (Int32 × fhM) :=
  if ((σ.1 0 1) + (20 : Int32)) ≤ (1600 : Int32) then
    fhlp (fun x => f_X12_feed_28 v1 v2 v3 v4 v5 x.1 x.2) ((0 : Int32), σ)
  else
    some ((-1 : Int32), (fhI σ 2 0 ((σ.1 2 0) + (1 : Int32))))
noncomputable def f_X12_end_12  (σ : fhM) : Bool × fhM :=
  (false, (fhI σ 2 0 ((σ.1 2 0) + (1 : Int32))))
noncomputable def f_X12_end (v1 : Int32) (σ : fhM) : Bool × fhM :=
  if v1 < 0 then
    f_X12_end_12 σ
  else
    if v1 ≤ (σ.1 0 1) then
      (true, (fhI σ 0 1 v1))
    else
      f_X12_end_12 σ
noncomputable def f_X12_fail (v1 : Int32) (v2 : Int32) (σ : fhM) : fhM :=
  if (σ.1 0 5) = 0 then
    (fhI (fhI σ 0 5 v1) 0 6 v2)
  else
    σ
noncomputable def f_X12_isLetter (v0 : Int32) (σ : fhM) : Bool :=
  if v0 < (97 : Int32) then
    false
  else
    if (122 : Int32) < v0 then
      false
    else
      true
noncomputable def f_X12_isDigit (v0 : Int32) (σ : fhM) : Bool :=
  if v0 < (48 : Int32) then
    false
  else
    if (57 : Int32) < v0 then
      false
    else
      true
noncomputable def f_X12_look_52  (σ : fhM) : Option (Int32 × fhM) :=
  if (σ.1 0 3) ≤ (σ.1 0 2) then
    some ((-1 : Int32), σ)
  else
    if (fhin (σ.1 0 2) 1600 && true) = true then
    some ((σ.1 1 (fhix (σ.1 0 2))), σ)
    else none
noncomputable def f_X12_look_39  (σ : fhM) : Option ((fhM) ⊕ (Int32 × fhM)) :=
  some (.inl (fhI σ 0 2 ((σ.1 0 2) + (1 : Int32))))
noncomputable def f_X12_look_0  (σ : fhM) : Option ((fhM) ⊕ (Int32 × fhM)) :=
  if (σ.1 0 3) ≤ (σ.1 0 2) then
    Option.map Sum.inr (f_X12_look_52 σ)
  else
    if (fhin (σ.1 0 2) 1600 && true) = true then
    if (σ.1 1 (fhix (σ.1 0 2))) = (10 : Int32) then
      f_X12_look_39 σ
    else
      if (fhin (σ.1 0 2) 1600 && true) = true then
      if (σ.1 1 (fhix (σ.1 0 2))) = (32 : Int32) then
        f_X12_look_39 σ
      else
        Option.map Sum.inr (f_X12_look_52 σ)
      else none
    else none
noncomputable def f_X12_look  (σ : fhM) : Option (Int32 × fhM) :=
  fhlp (fun x => f_X12_look_0 x) σ
noncomputable def f_X12_isHere_76 (v1 : Nat) (v3 : Int32) (σ : fhM) : Option ((Int32) ⊕ (Bool × fhM)) :=
  if (Int32.ofNat (fhYM.1 v1).2.2) ≤ v3 then
    some (.inr (true, σ))
  else
    if (fhin ((σ.1 0 2) + v3) 1600 && true) = true then
    if (fhin v3 (fhYM.1 v1).2.2 && true) = true then
    if (σ.1 1 (fhix ((σ.1 0 2) + v3))) = (σ.1 v1 (fhix v3)) then
      some (.inl (v3 + (1 : Int32)))
    else
      some (.inr (false, σ))
    else none
    else none
noncomputable def f_X12_isHere_61 (v1 : Nat) (v2 : Int32) (σ : fhM) : Option (Bool × fhM) :=
  if (v2 - (σ.1 0 2)) = (Int32.ofNat (fhYM.1 v1).2.2) then
    fhlp (fun x => f_X12_isHere_76 v1 x σ) (0 : Int32)
  else
    some (false, σ)
noncomputable def f_X12_isHere_35 (v1 : Nat) (v2 : Int32) (σ : fhM) : Option ((Int32) ⊕ (Bool × fhM)) :=
  if (σ.1 0 3) ≤ v2 then
    Option.map Sum.inr (f_X12_isHere_61 v1 v2 σ)
  else
    if (fhin v2 1600 && true) = true then
    if (f_X12_isLetter (σ.1 1 (fhix v2)) σ) = true then
      some (.inl (v2 + (1 : Int32)))
    else
      Option.map Sum.inr (f_X12_isHere_61 v1 v2 σ)
    else none
noncomputable def f_X12_isHere (v1 : Nat) (σ : fhM) : Option (Bool × fhM) :=
  if (σ.1 0 5) = 0 then
    Option.bind (f_X12_look σ) fun q1 =>
    if (f_X12_isLetter q1.1 q1.2) = true then
      if (q1.2.1 0 2) = (q1.2.1 0 4) then
        some (false, q1.2)
      else
        fhlp (fun x => f_X12_isHere_35 v1 x q1.2) (q1.2.1 0 2)
    else
      some (false, q1.2)
  else
    some (false, σ)
noncomputable def f_X12_takes (v1 : Nat) (σ : fhM) : Option (Bool × fhM) :=
  Option.bind (f_X12_isHere v1 σ) fun q1 =>
  if q1.1 = true then
    some (true, (fhI (fhI q1.2 0 2 ((q1.2.1 0 2) + (Int32.ofNat (fhYM.1 v1).2.2))) 0 4 ((q1.2.1 0 2) + (Int32.ofNat (fhYM.1 v1).2.2))))
  else
    some (false, q1.2)
noncomputable def f_X12_asks (v1 : Nat) (σ : fhM) : Option (fhM) :=
  if (σ.1 0 5) = 0 then
    Option.bind (f_X12_takes v1 σ) fun q1 =>
    if q1.1 = true then
      some q1.2
    else
      fhlet (f_X12_fail (1 : Int32) (q1.2.1 0 2) q1.2) fun q2 =>
      some q2
  else
    some σ
noncomputable def f_X12_takesSign (v1 : Int32) (σ : fhM) : Option (Bool × fhM) :=
  if (σ.1 0 5) = 0 then
    Option.bind (f_X12_look σ) fun q1 =>
    if q1.1 = v1 then
      some (true, (fhI q1.2 0 2 ((q1.2.1 0 2) + (1 : Int32))))
    else
      some (false, q1.2)
  else
    some (false, σ)
noncomputable def f_X12_asksSign (v1 : Int32) (σ : fhM) : Option (fhM) :=
  if (σ.1 0 5) = 0 then
    Option.bind (f_X12_takesSign v1 σ) fun q1 =>
    if q1.1 = true then
      some q1.2
    else
      fhlet (f_X12_fail (1 : Int32) (q1.2.1 0 2) q1.2) fun q2 =>
      some q2
  else
    some σ
noncomputable def f_X12_number_30  (σ : fhM) : Option (Int32 × fhM) :=
  fhlet (f_X12_fail (1 : Int32) (σ.1 0 2) σ) fun q2 =>
  some ((0 : Int32), q2)
noncomputable def f_X12_number_129 (v1 : Int32) (v2 : Int32) (v3 : Int32) (v4 : Int32) (σ : fhM) : Option (Int32 × fhM) :=
  if (f_X12_isIn (Int32.toInt64 v4) (Int32.toInt64 v1) (Int32.toInt64 v2) (fhI (fhI σ 0 4 (σ.1 0 2)) 0 10 v3)) = true then
    some (v4, (fhI (fhI σ 0 4 (σ.1 0 2)) 0 10 v3))
  else
    fhlet (f_X12_fail (2 : Int32) v3 (fhI (fhI σ 0 4 (σ.1 0 2)) 0 10 v3)) fun q4 =>
    some (v4, q4)
noncomputable def f_X12_number_49 (v1 : Int32) (v2 : Int32) (v3 : Int32) (v4 : Int32) (σ : fhM) : Option ((Int32 × fhM) ⊕ (Int32 × fhM)) :=
  if (σ.1 0 3) ≤ (σ.1 0 2) then
    Option.map Sum.inr (f_X12_number_129 v1 v2 v3 v4 σ)
  else
    if (fhin (σ.1 0 2) 1600 && true) = true then
    if (f_X12_isDigit (σ.1 1 (fhix (σ.1 0 2))) σ) = true then
      if ((σ.1 0 2) - v3) = (4 : Int32) then
        fhlet (f_X12_fail (1 : Int32) (σ.1 0 2) σ) fun q3 =>
        some (.inr ((0 : Int32), q3))
      else
        if (fhin (σ.1 0 2) 1600 && true) = true then
        fhlet ((((10 : Int32) * v4) + (σ.1 1 (fhix (σ.1 0 2)))) - (48 : Int32)) fun w4_1 =>
        some (.inl (w4_1, (fhI σ 0 2 ((σ.1 0 2) + (1 : Int32)))))
        else none
    else
      Option.map Sum.inr (f_X12_number_129 v1 v2 v3 v4 σ)
    else none
noncomputable def f_X12_number (v1 : Int32) (v2 : Int32) (σ : fhM) : Option (Int32 × fhM) :=
  if (σ.1 0 5) = 0 then
    Option.bind (f_X12_look σ) fun q1 =>
    if (f_X12_isDigit q1.1 q1.2) = true then
      if (q1.2.1 0 2) = (q1.2.1 0 4) then
        f_X12_number_30 q1.2
      else
        fhlp (fun x => f_X12_number_49 v1 v2 (q1.2.1 0 2) x.1 x.2) ((0 : Int32), q1.2)
    else
      f_X12_number_30 q1.2
  else
    some ((0 : Int32), σ)
noncomputable def f_X12_isOwnHere_331 (s0 : Bool) (σ : fhM) : Option (Bool × fhM) :=
  some (s0, σ)
noncomputable def f_X12_isOwnHere_326  (σ : fhM) : Option (Bool × fhM) :=
  f_X12_isOwnHere_331 true σ
noncomputable def f_X12_isOwnHere_299 (s0 : Int32) (σ : fhM) : Option (Bool × fhM) :=
  if s0 = 0 then
    Option.bind (f_X12_isHere 27 σ) fun q25 =>
    if q25.1 = true then
      f_X12_isOwnHere_326 q25.2
    else
      Option.bind (f_X12_isHere 28 q25.2) fun q26 =>
      if q26.1 = true then
        f_X12_isOwnHere_326 q26.2
      else
        f_X12_isOwnHere_331 false q26.2
  else
    f_X12_isOwnHere_326 σ
noncomputable def f_X12_isOwnHere_294  (σ : fhM) : Option (Bool × fhM) :=
  f_X12_isOwnHere_299 (1 : Int32) σ
noncomputable def f_X12_isOwnHere_223 (s0 : Int32) (σ : fhM) : Option (Bool × fhM) :=
  if s0 = 0 then
    Option.bind (f_X12_isHere 21 σ) fun q19 =>
    if q19.1 = true then
      f_X12_isOwnHere_294 q19.2
    else
      Option.bind (f_X12_isHere 22 q19.2) fun q20 =>
      if q20.1 = true then
        f_X12_isOwnHere_294 q20.2
      else
        Option.bind (f_X12_isHere 23 q20.2) fun q21 =>
        if q21.1 = true then
          f_X12_isOwnHere_294 q21.2
        else
          Option.bind (f_X12_isHere 24 q21.2) fun q22 =>
          if q22.1 = true then
            f_X12_isOwnHere_294 q22.2
          else
            Option.bind (f_X12_isHere 25 q22.2) fun q23 =>
            if q23.1 = true then
              f_X12_isOwnHere_294 q23.2
            else
              Option.bind (f_X12_isHere 26 q23.2) fun q24 =>
              if q24.1 = true then
                f_X12_isOwnHere_294 q24.2
              else
                f_X12_isOwnHere_299 (0 : Int32) q24.2
  else
    f_X12_isOwnHere_294 σ
noncomputable def f_X12_isOwnHere_218  (σ : fhM) : Option (Bool × fhM) :=
  f_X12_isOwnHere_223 (1 : Int32) σ
noncomputable def f_X12_isOwnHere_147 (s0 : Int32) (σ : fhM) : Option (Bool × fhM) :=
  if s0 = 0 then
    Option.bind (f_X12_isHere 15 σ) fun q13 =>
    if q13.1 = true then
      f_X12_isOwnHere_218 q13.2
    else
      Option.bind (f_X12_isHere 16 q13.2) fun q14 =>
      if q14.1 = true then
        f_X12_isOwnHere_218 q14.2
      else
        Option.bind (f_X12_isHere 17 q14.2) fun q15 =>
        if q15.1 = true then
          f_X12_isOwnHere_218 q15.2
        else
          Option.bind (f_X12_isHere 18 q15.2) fun q16 =>
          if q16.1 = true then
            f_X12_isOwnHere_218 q16.2
          else
            Option.bind (f_X12_isHere 19 q16.2) fun q17 =>
            if q17.1 = true then
              f_X12_isOwnHere_218 q17.2
            else
              Option.bind (f_X12_isHere 20 q17.2) fun q18 =>
              if q18.1 = true then
                f_X12_isOwnHere_218 q18.2
              else
                f_X12_isOwnHere_223 (0 : Int32) q18.2
  else
    f_X12_isOwnHere_218 σ
noncomputable def f_X12_isOwnHere_142  (σ : fhM) : Option (Bool × fhM) :=
  f_X12_isOwnHere_147 (1 : Int32) σ
noncomputable def f_X12_isOwnHere_71 (s0 : Int32) (σ : fhM) : Option (Bool × fhM) :=
  if s0 = 0 then
    Option.bind (f_X12_isHere 9 σ) fun q7 =>
    if q7.1 = true then
      f_X12_isOwnHere_142 q7.2
    else
      Option.bind (f_X12_isHere 10 q7.2) fun q8 =>
      if q8.1 = true then
        f_X12_isOwnHere_142 q8.2
      else
        Option.bind (f_X12_isHere 11 q8.2) fun q9 =>
        if q9.1 = true then
          f_X12_isOwnHere_142 q9.2
        else
          Option.bind (f_X12_isHere 12 q9.2) fun q10 =>
          if q10.1 = true then
            f_X12_isOwnHere_142 q10.2
          else
            Option.bind (f_X12_isHere 13 q10.2) fun q11 =>
            if q11.1 = true then
              f_X12_isOwnHere_142 q11.2
            else
              Option.bind (f_X12_isHere 14 q11.2) fun q12 =>
              if q12.1 = true then
                f_X12_isOwnHere_142 q12.2
              else
                f_X12_isOwnHere_147 (0 : Int32) q12.2
  else
    f_X12_isOwnHere_142 σ
noncomputable def f_X12_isOwnHere_66  (σ : fhM) : Option (Bool × fhM) :=
  f_X12_isOwnHere_71 (1 : Int32) σ
noncomputable def f_X12_isOwnHere  (σ : fhM) : Option (Bool × fhM) :=
  Option.bind (f_X12_isHere 3 σ) fun q1 =>
  if q1.1 = true then
    f_X12_isOwnHere_66 q1.2
  else
    Option.bind (f_X12_isHere 4 q1.2) fun q2 =>
    if q2.1 = true then
      f_X12_isOwnHere_66 q2.2
    else
      Option.bind (f_X12_isHere 5 q2.2) fun q3 =>
      if q3.1 = true then
        f_X12_isOwnHere_66 q3.2
      else
        Option.bind (f_X12_isHere 6 q3.2) fun q4 =>
        if q4.1 = true then
          f_X12_isOwnHere_66 q4.2
        else
          Option.bind (f_X12_isHere 7 q4.2) fun q5 =>
          if q5.1 = true then
            f_X12_isOwnHere_66 q5.2
          else
            Option.bind (f_X12_isHere 8 q5.2) fun q6 =>
            if q6.1 = true then
              f_X12_isOwnHere_66 q6.2
            else
              f_X12_isOwnHere_71 (0 : Int32) q6.2
noncomputable def f_X12_name_37  (σ : fhM) : Option (Int64 × fhM) :=
  fhlet (f_X12_fail (1 : Int32) (σ.1 0 2) σ) fun q3 =>
  some ((0 : Int64), q3)
noncomputable def f_X12_name_145 (v1 : Int64) (σ : fhM) : Option (Int64 × fhM) :=
  some (v1, (fhI σ 0 4 (σ.1 0 2)))
noncomputable def f_X12_name_58 (v1 : Int64) (σ : fhM) : Option ((Int64 × fhM) ⊕ (Int64 × fhM)) :=
  if (σ.1 0 3) ≤ (σ.1 0 2) then
    Option.map Sum.inr (f_X12_name_145 v1 σ)
  else
    if (fhin (σ.1 0 2) 1600 && true) = true then
    if (f_X12_isLetter (σ.1 1 (fhix (σ.1 0 2))) σ) = true then
      if ((σ.1 0 2) - (σ.1 0 37)) = (6 : Int32) then
        fhlet (f_X12_fail (1 : Int32) (σ.1 0 2) σ) fun q4 =>
        some (.inr ((0 : Int64), q4))
      else
        if (fhin (σ.1 0 2) 1600 && true) = true then
        fhlet (((((27 : Int64) * v1) + (Int32.toInt64 (σ.1 1 (fhix (σ.1 0 2))))) - (97 : Int64)) + (1 : Int64)) fun w1_1 =>
        some (.inl (w1_1, (fhI σ 0 2 ((σ.1 0 2) + (1 : Int32)))))
        else none
    else
      Option.map Sum.inr (f_X12_name_145 v1 σ)
    else none
noncomputable def f_X12_name  (σ : fhM) : Option (Int64 × fhM) :=
  if (σ.1 0 5) = 0 then
    Option.bind (f_X12_look σ) fun q1 =>
    if (f_X12_isLetter q1.1 q1.2) = true then
      if (q1.2.1 0 2) = (q1.2.1 0 4) then
        f_X12_name_37 q1.2
      else
        Option.bind (f_X12_isOwnHere q1.2) fun q2 =>
        if q2.1 = true then
          f_X12_name_37 q2.2
        else
          fhlp (fun x => f_X12_name_58 x.1 x.2) ((0 : Int64), (fhI q2.2 0 37 (q2.2.1 0 2)))
    else
      f_X12_name_37 q1.2
  else
    some ((0 : Int64), σ)
noncomputable def f_X12_guestHere_97 (v1 : Int32) (v2 : Int64) (v4 : Int32) (σ : fhM) : Option ((Int32) ⊕ (Int32 × fhM)) :=
  if (σ.1 29 1) ≤ v4 then
    some (.inr ((-1 : Int32), σ))
  else
    if (7 : Int32) ≤ (v1 - (σ.1 0 2)) then
      some (.inr ((-1 : Int32), σ))
    else
      if (fhin v4 10 && true) = true then
      if (lg_cmp (σ.2.1 30 (fhix v4)) v2) = 0 then
        some (.inr (v4, (fhI (fhI σ 0 2 v1) 0 4 v1)))
      else
        some (.inl (v4 + (1 : Int32)))
      else none
noncomputable def f_X12_guestHere_94 (v1 : Int32) (v2 : Int64) (σ : fhM) : Option (Int32 × fhM) :=
  fhlp (fun x => f_X12_guestHere_97 v1 v2 x σ) (0 : Int32)
noncomputable def f_X12_guestHere_37 (v1 : Int32) (v2 : Int64) (σ : fhM) : Option ((Int32 × Int64) ⊕ (Int32 × fhM)) :=
  if (σ.1 0 3) ≤ v1 then
    Option.map Sum.inr (f_X12_guestHere_94 v1 v2 σ)
  else
    if (fhin v1 1600 && true) = true then
    if (f_X12_isLetter (σ.1 1 (fhix v1)) σ) = true then
      if (7 : Int32) ≤ (v1 - (σ.1 0 2)) then
        Option.map Sum.inr (f_X12_guestHere_94 v1 v2 σ)
      else
        if (fhin v1 1600 && true) = true then
        fhlet (((((27 : Int64) * v2) + (Int32.toInt64 (σ.1 1 (fhix v1)))) - (97 : Int64)) + (1 : Int64)) fun w2_1 =>
        some (.inl ((v1 + (1 : Int32)), w2_1))
        else none
    else
      Option.map Sum.inr (f_X12_guestHere_94 v1 v2 σ)
    else none
noncomputable def f_X12_guestHere  (σ : fhM) : Option (Int32 × fhM) :=
  if (σ.1 0 5) = 0 then
    Option.bind (f_X12_look σ) fun q1 =>
    if (f_X12_isLetter q1.1 q1.2) = true then
      if (q1.2.1 0 2) = (q1.2.1 0 4) then
        some ((-1 : Int32), q1.2)
      else
        fhlp (fun x => f_X12_guestHere_37 x.1 x.2 q1.2) ((q1.2.1 0 2), (0 : Int64))
    else
      some ((-1 : Int32), q1.2)
  else
    some ((-1 : Int32), σ)
noncomputable def f_X12_isAllowed_46  (σ : fhM) : Bool :=
  true
noncomputable def f_X12_isAllowed_18  (σ : fhM) : Bool :=
  true
noncomputable def f_X12_isAllowed (v1 : Int32) (σ : fhM) : Bool :=
  if (σ.1 0 48) = 0 then
    if v1 < (4 : Int32) then
      f_X12_isAllowed_18 σ
    else
      if v1 = (9 : Int32) then
        f_X12_isAllowed_18 σ
      else
        false
  else
    if (f_X12_isIn (Int32.toInt64 v1) (4 : Int64) (8 : Int64) σ) = true then
      f_X12_isAllowed_46 σ
    else
      if v1 ≤ (9 : Int32) then
        false
      else
        f_X12_isAllowed_46 σ
noncomputable def f_X12_isFull_23  (σ : fhM) : Option (Bool × fhM) :=
  if (σ.1 0 5) = 0 then
    some (false, σ)
  else
    some (true, σ)
noncomputable def f_X12_isFull (v1 : Int32) (v2 : Int32) (v3 : Int32) (σ : fhM) : Option (Bool × fhM) :=
  if (σ.1 0 5) = 0 then
    if (fhin v1 10 && true) = true then
    if (σ.1 29 (fhix v1)) = v2 then
      fhlet (f_X12_fail (5 : Int32) v3 σ) fun q1 =>
      f_X12_isFull_23 q1
    else
      f_X12_isFull_23 σ
    else none
  else
    f_X12_isFull_23 σ
noncomputable def f_X12_marksTold  (σ : fhM) : Option (fhM) :=
  Option.bind (f_X12_asks 3 σ) fun q1 =>
  Option.bind (f_X12_number (2 : Int32) (4 : Int32) q1) fun q2 =>
  Option.bind (f_X12_asksSign (59 : Int32) (fhI q2.2 29 0 q2.1)) fun q3 =>
  some q3
noncomputable def f_X12_guestTold_58 (v2 : Int64) (v4 : Int32) (σ : fhM) : Option ((Int32 × fhM) ⊕ (fhM)) :=
  some (.inl ((v4 + (1 : Int32)), σ))
noncomputable def f_X12_guestTold_19 (v2 : Int64) (v4 : Int32) (σ : fhM) : Option ((Int32 × fhM) ⊕ (fhM)) :=
  if (σ.1 29 1) ≤ v4 then
    Option.bind (f_X12_asks 5 σ) fun q3 =>
    Option.bind (f_X12_number (0 : Int32) ((q3.1 29 0) - (1 : Int32)) q3) fun q4 =>
    if (q4.2.1 0 5) = 0 then
      if (fhin (q4.2.1 29 1) 10 && (fhin (q4.2.1 29 1) 5 && true)) = true then
      some (.inr (fhI (fhI (fhJ q4.2 30 (fhix (q4.2.1 29 1)) v2) 31 (fhix (q4.2.1 29 1)) q4.1) 29 1 ((q4.2.1 29 1) + (1 : Int32))))
      else none
    else
      some (.inr q4.2)
  else
    if (σ.1 0 5) = 0 then
      if (fhin v4 10 && true) = true then
      if (lg_cmp (σ.2.1 30 (fhix v4)) v2) = 0 then
        fhlet (f_X12_fail (3 : Int32) (σ.1 0 37) σ) fun q5 =>
        f_X12_guestTold_58 v2 v4 q5
      else
        f_X12_guestTold_58 v2 v4 σ
      else none
    else
      f_X12_guestTold_58 v2 v4 σ
noncomputable def f_X12_guestTold (v1 : Int32) (σ : fhM) : Option (fhM) :=
  Option.bind (f_X12_isFull (1 : Int32) (5 : Int32) v1 σ) fun q1 =>
  if q1.1 = true then
    some q1.2
  else
    Option.bind (f_X12_name q1.2) fun q2 =>
    fhlp (fun x => f_X12_guestTold_19 q2.1 x.1 x.2) ((0 : Int32), q2.2)
noncomputable def f_X12_guestNamed_7 (v1 : Int64) (v3 : Int32) (σ : fhM) : Option ((Int32) ⊕ (Int32 × fhM)) :=
  if (σ.1 29 1) ≤ v3 then
    if (σ.1 0 5) = 0 then
      fhlet (f_X12_fail (3 : Int32) (σ.1 0 37) σ) fun q2 =>
      some (.inr ((0 : Int32), q2))
    else
      some (.inr ((0 : Int32), σ))
  else
    if (fhin v3 10 && true) = true then
    if (lg_cmp (σ.2.1 30 (fhix v3)) v1) = 0 then
      some (.inr (v3, σ))
    else
      some (.inl (v3 + (1 : Int32)))
    else none
noncomputable def f_X12_guestNamed  (σ : fhM) : Option (Int32 × fhM) :=
  Option.bind (f_X12_name σ) fun q1 =>
  fhlp (fun x => f_X12_guestNamed_7 q1.1 x q1.2) (0 : Int32)
noncomputable def f_X12_blindTold_52 (v1 : Int32) (v2 : Int32) (σ : fhM) : Option (fhM) :=
  if (σ.1 0 5) = 0 then
    if (fhin v1 10 && (fhin v1 10 && true)) = true then
    some (fhI σ 32 (fhix v1) ((σ.1 32 (fhix v1)) &&& (((1 : Int32) <<< (v2 &&& 31)) ^^^ (-1 : Int32))))
    else none
  else
    some σ
noncomputable def f_X12_blindTold_43 (v1 : Int32) (v2 : Int32) (σ : fhM) : Option (fhM) :=
  fhlet (f_X12_fail (3 : Int32) (σ.1 0 37) σ) fun q4 =>
  f_X12_blindTold_52 v1 v2 q4
noncomputable def f_X12_blindTold  (σ : fhM) : Option (fhM) :=
  Option.bind (f_X12_guestNamed σ) fun q1 =>
  Option.bind (f_X12_asks 7 q1.2) fun q2 =>
  Option.bind (f_X12_guestNamed q2) fun q3 =>
  if (q3.2.1 0 5) = 0 then
    if q1.1 = q3.1 then
      f_X12_blindTold_43 q1.1 q3.1 q3.2
    else
      if (fhin q1.1 10 && true) = true then
      if (((q3.2.1 32 (fhix q1.1)) >>> (q3.1 &&& 31)) &&& (1 : Int32)) = 0 then
        f_X12_blindTold_43 q1.1 q3.1 q3.2
      else
        f_X12_blindTold_52 q1.1 q3.1 q3.2
      else none
  else
    f_X12_blindTold_52 q1.1 q3.1 q3.2
noncomputable def f_X12_qOpens (v1 : Int32) (v2 : Int32) (σ : fhM) : Option (fhM) :=
  if (σ.1 0 5) = 0 then
    if (σ.1 0 102) = (6 : Int32) then
      fhlet (f_X12_fail (4 : Int32) v2 σ) fun q1 =>
      some q1
    else
      if (fhin (σ.1 0 101) 1700 && true) = true then
      some (fhI (fhI (fhI σ 0 102 ((σ.1 0 102) + (1 : Int32))) 77 (fhix (σ.1 0 101)) v1) 0 101 ((σ.1 0 101) + (1 : Int32)))
      else none
  else
    some σ
noncomputable def f_X12_qCode (v1 : Int32) (σ : fhM) : Option (fhM) :=
  if (fhin (σ.1 0 99) 1700 && true) = true then
  some (fhI (fhI σ 76 (fhix (σ.1 0 99)) v1) 0 99 ((σ.1 0 99) + (1 : Int32)))
  else none
noncomputable def f_X12_qWordHere  (σ : fhM) : Option (Int32 × fhM) :=
  Option.bind (f_X12_isHere 64 σ) fun q1 =>
  if q1.1 = true then
    some ((0 : Int32), q1.2)
  else
    Option.bind (f_X12_isHere 65 q1.2) fun q2 =>
    if q2.1 = true then
      some ((1 : Int32), q2.2)
    else
      Option.bind (f_X12_isHere 66 q2.2) fun q3 =>
      if q3.1 = true then
        some ((2 : Int32), q3.2)
      else
        Option.bind (f_X12_isHere 67 q3.2) fun q4 =>
        if q4.1 = true then
          some ((3 : Int32), q4.2)
        else
          Option.bind (f_X12_isHere 68 q4.2) fun q5 =>
          if q5.1 = true then
            some ((4 : Int32), q5.2)
          else
            Option.bind (f_X12_isHere 69 q5.2) fun q6 =>
            if q6.1 = true then
              some ((5 : Int32), q6.2)
            else
              Option.bind (f_X12_isHere 70 q6.2) fun q7 =>
              if q7.1 = true then
                some ((6 : Int32), q7.2)
              else
                Option.bind (f_X12_isHere 71 q7.2) fun q8 =>
                if q8.1 = true then
                  some ((7 : Int32), q8.2)
                else
                  Option.bind (f_X12_isHere 72 q8.2) fun q9 =>
                  if q9.1 = true then
                    some ((8 : Int32), q9.2)
                  else
                    Option.bind (f_X12_isHere 73 q9.2) fun q10 =>
                    if q10.1 = true then
                      some ((9 : Int32), q10.2)
                    else
                      Option.bind (f_X12_isHere 74 q10.2) fun q11 =>
                      if q11.1 = true then
                        some ((10 : Int32), q11.2)
                      else
                        Option.bind (f_X12_isHere 75 q11.2) fun q12 =>
                        if q12.1 = true then
                          some ((11 : Int32), q12.2)
                        else
                          some ((-1 : Int32), q12.2)
noncomputable def f_X12_qWordOf (v1 : Int32) (v2 : Int32) (σ : fhM) : Option (Int32 × fhM) :=
  Option.bind (f_X12_qWordHere σ) fun q1 =>
  if q1.1 < v1 then
    some ((-1 : Int32), q1.2)
  else
    if v2 ≤ q1.1 then
      some ((-1 : Int32), q1.2)
    else
      if (f_X12_isAllowed q1.1 q1.2) = true then
        some (q1.1, q1.2)
      else
        some ((-1 : Int32), q1.2)
noncomputable def f_X12_qAsksWord (v1 : Int32) (σ : fhM) : Option (fhM) :=
  if v1 = (0 : Int32) then
    Option.bind (f_X12_asks 64 σ) fun q1 =>
    some q1
  else
  if v1 = (1 : Int32) then
    Option.bind (f_X12_asks 65 σ) fun q2 =>
    some q2
  else
  if v1 = (2 : Int32) then
    Option.bind (f_X12_asks 66 σ) fun q3 =>
    some q3
  else
  if v1 = (3 : Int32) then
    Option.bind (f_X12_asks 67 σ) fun q4 =>
    some q4
  else
  if v1 = (4 : Int32) then
    Option.bind (f_X12_asks 68 σ) fun q5 =>
    some q5
  else
  if v1 = (5 : Int32) then
    Option.bind (f_X12_asks 69 σ) fun q6 =>
    some q6
  else
  if v1 = (6 : Int32) then
    Option.bind (f_X12_asks 70 σ) fun q7 =>
    some q7
  else
  if v1 = (7 : Int32) then
    Option.bind (f_X12_asks 71 σ) fun q8 =>
    some q8
  else
  if v1 = (8 : Int32) then
    Option.bind (f_X12_asks 72 σ) fun q9 =>
    some q9
  else
  if v1 = (9 : Int32) then
    Option.bind (f_X12_asks 73 σ) fun q10 =>
    some q10
  else
  if v1 = (10 : Int32) then
    Option.bind (f_X12_asks 74 σ) fun q11 =>
    some q11
  else
  Option.bind (f_X12_asks 75 σ) fun q12 =>
  some q12
noncomputable def f_X12_qDrops  (σ : fhM) : Option (fhM) :=
  if (fhin ((σ.1 0 101) - (1 : Int32)) 1700 && true) = true then
  Option.bind (f_X12_qCode (σ.1 77 (fhix ((σ.1 0 101) - (1 : Int32)))) (fhI σ 0 101 ((σ.1 0 101) - (1 : Int32)))) fun q1 =>
  some q1
  else none
noncomputable def f_X12_qEndsPart_0  (σ : fhM) : Option ((fhM) ⊕ (fhM)) :=
  if (σ.1 0 5) = 0 then
    if (σ.1 0 101) ≤ (σ.1 0 103) then
      some (.inr σ)
    else
      if (fhin ((σ.1 0 101) - (1 : Int32)) 1700 && true) = true then
      if (σ.1 77 (fhix ((σ.1 0 101) - (1 : Int32)))) < (60 : Int32) then
        some (.inr σ)
      else
        Option.bind (f_X12_qDrops (fhI σ 0 102 ((σ.1 0 102) - (1 : Int32)))) fun q1 =>
        some (.inl q1)
      else none
  else
    some (.inr σ)
noncomputable def f_X12_qEndsPart  (σ : fhM) : Option (fhM) :=
  fhlp (fun x => f_X12_qEndsPart_0 x) σ
noncomputable def f_X12_qPartTold_270 (s0 : Int32) (σ : fhM) : Option (fhM) :=
  Option.bind (f_X12_qCode s0 σ) fun q15 =>
  Option.bind (f_X12_qEndsPart q15) fun q16 =>
  some q16
noncomputable def f_X12_qPartTold_232 (v2 : Int32) (s0 : Int32) (σ : fhM) : Option (fhM) :=
  if v2 = (-1 : Int32) then
    if s0 = (-1 : Int32) then
      Option.bind (f_X12_number (0 : Int32) (9999 : Int32) σ) fun q14 =>
      f_X12_qPartTold_270 ((1000 : Int32) + q14.1) q14.2
    else
      f_X12_qPartTold_270 ((52 : Int32) + s0) σ
  else
    f_X12_qPartTold_270 ((40 : Int32) + v2) σ
noncomputable def f_X12_qPartTold_231 (v2 : Int32) (σ : fhM) : Option (fhM) :=
  f_X12_qPartTold_232 v2 (-1 : Int32) σ
noncomputable def f_X12_qPartTold_212 (v2 : Int32) (σ : fhM) : Option (fhM) :=
  if v2 = (-1 : Int32) then
    if (σ.1 0 48) = 0 then
      Option.bind (f_X12_guestHere σ) fun q12 =>
      f_X12_qPartTold_232 v2 q12.1 q12.2
    else
      f_X12_qPartTold_231 v2 σ
  else
    f_X12_qPartTold_231 v2 σ
noncomputable def f_X12_qPartTold_186  (σ : fhM) : Option (fhM) :=
  if (σ.1 0 5) = 0 then
    Option.bind (f_X12_qWordOf (0 : Int32) (9 : Int32) σ) fun q8 =>
    if q8.1 = (-1 : Int32) then
      f_X12_qPartTold_212 q8.1 q8.2
    else
      Option.bind (f_X12_qAsksWord q8.1 q8.2) fun q9 =>
      f_X12_qPartTold_212 q8.1 q9
  else
    some σ
noncomputable def f_X12_qPartTold_183 (v1 : Int32) (σ : fhM) : Option ((Int32 × fhM) ⊕ (fhM)) :=
  some (.inl (v1, σ))
noncomputable def f_X12_qPartTold_144 (v1 : Int32) (σ : fhM) : Option ((Int32 × fhM) ⊕ (fhM)) :=
  Option.bind (f_X12_asksSign (40 : Int32) σ) fun q17 =>
  f_X12_qPartTold_183 v1 q17
noncomputable def f_X12_qPartTold_139 (v1 : Int32) (v5 : Int32) (s0 : Int32) (σ : fhM) : Option ((Int32 × fhM) ⊕ (fhM)) :=
  Option.bind (f_X12_qOpens s0 v5 σ) fun q18 =>
  f_X12_qPartTold_144 v1 q18
noncomputable def f_X12_qPartTold_118 (v1 : Int32) (v4 : Int32) (s0 : Int32) (σ : fhM) : Option ((Int32 × fhM) ⊕ (fhM)) :=
  if s0 = (-1 : Int32) then
    f_X12_qPartTold_144 v1 σ
  else
    f_X12_qPartTold_139 v1 s0 (if v4 = 0 then (22 : Int32) else (21 : Int32)) σ
noncomputable def f_X12_qPartTold_101 (v1 : Int32) (v4 : Int32) (σ : fhM) : Option ((Int32 × fhM) ⊕ (fhM)) :=
  Option.bind (f_X12_look σ) fun q13 =>
  f_X12_qPartTold_118 v1 v4 (if q13.1 = (40 : Int32) then (q13.2.1 0 2) else (-1 : Int32)) q13.2
noncomputable def f_X12_qPartTold_78 (v1 : Int32) (σ : fhM) : Option ((Int32 × fhM) ⊕ (fhM)) :=
  Option.bind (f_X12_takes 62 σ) fun q10 =>
  if q10.1 = true then
    f_X12_qPartTold_101 v1 (fhb q10.1) q10.2
  else
    Option.bind (f_X12_asks 63 q10.2) fun q11 =>
    f_X12_qPartTold_101 v1 (fhb q10.1) q11
noncomputable def f_X12_qPartTold_2 (v1 : Int32) (σ : fhM) : Option ((Int32 × fhM) ⊕ (fhM)) :=
  if v1 = 0 then
    Option.map Sum.inr (f_X12_qPartTold_186 σ)
  else
    if (σ.1 0 5) = 0 then
      Option.bind (f_X12_look σ) fun q1 =>
      Option.bind (f_X12_qWordOf (9 : Int32) (12 : Int32) q1.2) fun q2 =>
      if q1.1 = (40 : Int32) then
        Option.bind (f_X12_qOpens (20 : Int32) (q2.2.1 0 2) q2.2) fun q7 =>
        f_X12_qPartTold_183 v1 (fhI q7 0 2 ((q7.1 0 2) + (1 : Int32)))
      else
        Option.bind (f_X12_isHere 62 q2.2) fun q3 =>
        if q3.1 = true then
          f_X12_qPartTold_78 v1 q3.2
        else
          Option.bind (f_X12_isHere 63 q3.2) fun q4 =>
          if q4.1 = true then
            f_X12_qPartTold_78 v1 q4.2
          else
            if q2.1 = (-1 : Int32) then
              f_X12_qPartTold_183 (0 : Int32) q4.2
            else
              Option.bind (f_X12_qOpens (((60 : Int32) + q2.1) - (9 : Int32)) (q4.2.1 0 2) q4.2) fun q5 =>
              Option.bind (f_X12_qAsksWord q2.1 q5) fun q6 =>
              f_X12_qPartTold_183 v1 q6
    else
      Option.map Sum.inr (f_X12_qPartTold_186 σ)
noncomputable def f_X12_qPartTold  (σ : fhM) : Option (fhM) :=
  fhlp (fun x => f_X12_qPartTold_2 x.1 x.2) ((1 : Int32), σ)
noncomputable def f_X12_qIsBracket (v0 : Int32) (σ : fhM) : Bool :=
  if v0 < (20 : Int32) then
    false
  else
    if (24 : Int32) < v0 then
      false
    else
      true
noncomputable def f_X12_qBracket_33 (v1 : Int32) (σ : fhM) : Option (Int32) :=
  if v1 < (σ.1 0 103) then
    some (-1 : Int32)
  else
    if (fhin v1 1700 && true) = true then
    some (σ.1 77 (fhix v1))
    else none
noncomputable def f_X12_qBracket_7 (v1 : Int32) (σ : fhM) : Option ((Int32) ⊕ (Int32)) :=
  if v1 < (σ.1 0 103) then
    Option.map Sum.inr (f_X12_qBracket_33 v1 σ)
  else
    if (fhin v1 1700 && true) = true then
    if (f_X12_qIsBracket (σ.1 77 (fhix v1)) σ) = true then
      Option.map Sum.inr (f_X12_qBracket_33 v1 σ)
    else
      some (.inl (v1 + (-1 : Int32)))
    else none
noncomputable def f_X12_qBracket  (σ : fhM) : Option (Int32) :=
  fhlp (fun x => f_X12_qBracket_7 x σ) ((σ.1 0 101) - (1 : Int32))
noncomputable def f_X12_qDropsToBracket_0  (σ : fhM) : Option ((fhM) ⊕ (fhM)) :=
  if (σ.1 0 101) ≤ (σ.1 0 103) then
    some (.inr σ)
  else
    if (fhin ((σ.1 0 101) - (1 : Int32)) 1700 && true) = true then
    if (f_X12_qIsBracket (σ.1 77 (fhix ((σ.1 0 101) - (1 : Int32)))) σ) = true then
      some (.inr σ)
    else
      Option.bind (f_X12_qDrops σ) fun q1 =>
      some (.inl q1)
    else none
noncomputable def f_X12_qDropsToBracket  (σ : fhM) : Option (fhM) :=
  fhlp (fun x => f_X12_qDropsToBracket_0 x) σ
noncomputable def f_X12_qIsOn (v1 : Int32) (σ : fhM) : Option (Bool) :=
  if (σ.1 0 101) ≤ 0 then
    some false
  else
    if (fhin ((σ.1 0 101) - (1 : Int32)) 1700 && true) = true then
    if (σ.1 77 (fhix ((σ.1 0 101) - (1 : Int32)))) = v1 then
      some true
    else
      some false
    else none
noncomputable def f_X12_qGoesOn_178 (v1 : Int32) (σ : fhM) : Option ((fhM) ⊕ (Bool × fhM)) :=
  Option.bind (f_X12_qDrops σ) fun q24 =>
  some (.inl q24)
noncomputable def f_X12_qGoesOn_162 (v1 : Int32) (σ : fhM) : Option ((fhM) ⊕ (Bool × fhM)) :=
  Option.bind (f_X12_qIsOn (3 : Int32) σ) fun q18 =>
  if q18 = true then
    f_X12_qGoesOn_178 v1 σ
  else
    Option.bind (f_X12_qIsOn (4 : Int32) σ) fun q19 =>
    if q19 = true then
      f_X12_qGoesOn_178 v1 σ
    else
      if (fhin (σ.1 0 101) 1700 && true) = true then
      some (.inr (true, (fhI (fhI σ 77 (fhix (σ.1 0 101)) v1) 0 101 ((σ.1 0 101) + (1 : Int32)))))
      else none
noncomputable def f_X12_qGoesOn_161 (s0 : Int32) (σ : fhM) : Option (Bool × fhM) :=
  fhlp (fun x => f_X12_qGoesOn_162 s0 x) σ
noncomputable def f_X12_qGoesOn_140  (σ : fhM) : Option (Bool × fhM) :=
  if (fhin ((σ.1 0 2) - (1 : Int32)) 1600 && true) = true then
  f_X12_qGoesOn_161 (if (σ.1 1 (fhix ((σ.1 0 2) - (1 : Int32)))) = (42 : Int32) then (3 : Int32) else (4 : Int32)) σ
  else none
noncomputable def f_X12_qGoesOn_279 (v1 : Int32) (σ : fhM) : Option ((fhM) ⊕ (Bool × fhM)) :=
  Option.bind (f_X12_qDrops σ) fun q25 =>
  some (.inl q25)
noncomputable def f_X12_qGoesOn_247 (v1 : Int32) (σ : fhM) : Option ((fhM) ⊕ (Bool × fhM)) :=
  Option.bind (f_X12_qIsOn (3 : Int32) σ) fun q20 =>
  if q20 = true then
    f_X12_qGoesOn_279 v1 σ
  else
    Option.bind (f_X12_qIsOn (4 : Int32) σ) fun q21 =>
    if q21 = true then
      f_X12_qGoesOn_279 v1 σ
    else
      Option.bind (f_X12_qIsOn (1 : Int32) σ) fun q22 =>
      if q22 = true then
        f_X12_qGoesOn_279 v1 σ
      else
        Option.bind (f_X12_qIsOn (2 : Int32) σ) fun q23 =>
        if q23 = true then
          f_X12_qGoesOn_279 v1 σ
        else
          if (fhin (σ.1 0 101) 1700 && true) = true then
          some (.inr (true, (fhI (fhI σ 77 (fhix (σ.1 0 101)) v1) 0 101 ((σ.1 0 101) + (1 : Int32)))))
          else none
noncomputable def f_X12_qGoesOn_246 (s0 : Int32) (σ : fhM) : Option (Bool × fhM) :=
  fhlp (fun x => f_X12_qGoesOn_247 s0 x) σ
noncomputable def f_X12_qGoesOn_225  (σ : fhM) : Option (Bool × fhM) :=
  if (fhin ((σ.1 0 2) - (1 : Int32)) 1600 && true) = true then
  f_X12_qGoesOn_246 (if (σ.1 1 (fhix ((σ.1 0 2) - (1 : Int32)))) = (43 : Int32) then (1 : Int32) else (2 : Int32)) σ
  else none
noncomputable def f_X12_qGoesOn_326  (σ : fhM) : Option (Bool × fhM) :=
  Option.bind (f_X12_asksSign (44 : Int32) σ) fun q14 =>
  if (q14.1 0 5) = 0 then
    Option.bind (f_X12_qDropsToBracket q14) fun q15 =>
    if (fhin ((q15.1 0 101) - (1 : Int32)) 1700 && (fhin ((q15.1 0 101) - (1 : Int32)) 1700 && true)) = true then
    some (true, (fhI q15 77 (fhix ((q15.1 0 101) - (1 : Int32))) ((q15.1 77 (fhix ((q15.1 0 101) - (1 : Int32)))) + (2 : Int32))))
    else none
  else
    some (false, q14)
noncomputable def f_X12_qGoesOn_122  (σ : fhM) : Option (Bool × fhM) :=
  Option.bind (f_X12_takesSign (42 : Int32) σ) fun q5 =>
  if q5.1 = true then
    f_X12_qGoesOn_140 q5.2
  else
    Option.bind (f_X12_takesSign (47 : Int32) q5.2) fun q6 =>
    if q6.1 = true then
      f_X12_qGoesOn_140 q6.2
    else
      Option.bind (f_X12_takesSign (43 : Int32) q6.2) fun q7 =>
      if q7.1 = true then
        f_X12_qGoesOn_225 q7.2
      else
        Option.bind (f_X12_takesSign (45 : Int32) q7.2) fun q8 =>
        if q8.1 = true then
          f_X12_qGoesOn_225 q8.2
        else
          Option.bind (f_X12_qBracket q8.2) fun q9 =>
          if q9 = (21 : Int32) then
            f_X12_qGoesOn_326 q8.2
          else
            Option.bind (f_X12_qBracket q8.2) fun q10 =>
            if q10 = (22 : Int32) then
              f_X12_qGoesOn_326 q8.2
            else
              Option.bind (f_X12_qBracket q8.2) fun q11 =>
              if q11 = (-1 : Int32) then
                some (false, q8.2)
              else
                if (q8.2.1 0 5) = 0 then
                  fhlet (f_X12_fail (1 : Int32) (q8.2.1 0 2) q8.2) fun q12 =>
                  some (false, q12)
                else
                  some (false, q8.2)
noncomputable def f_X12_qGoesOn_115  (σ : fhM) : Option ((fhM) ⊕ (Bool × fhM)) :=
  Option.bind (f_X12_qEndsPart σ) fun q16 =>
  some (.inl q16)
noncomputable def f_X12_qGoesOn_112 (s0 : Int32) (σ : fhM) : Option ((fhM) ⊕ (Bool × fhM)) :=
  Option.bind (f_X12_qCode s0 σ) fun q17 =>
  f_X12_qGoesOn_115 q17
noncomputable def f_X12_qGoesOn_43  (σ : fhM) : Option ((fhM) ⊕ (Bool × fhM)) :=
  Option.bind (f_X12_qDropsToBracket (fhI σ 0 2 ((σ.1 0 2) + (1 : Int32)))) fun q13 =>
  if (fhin ((q13.1 0 101) - (1 : Int32)) 1700 && true) = true then
  if (q13.1 77 (fhix ((q13.1 0 101) - (1 : Int32)))) = (20 : Int32) then
    f_X12_qGoesOn_115 (fhI (fhI q13 0 101 ((q13.1 0 101) - (1 : Int32))) 0 102 ((q13.1 0 102) - (1 : Int32)))
  else
    if (fhin ((q13.1 0 101) - (1 : Int32)) 1700 && true) = true then
    f_X12_qGoesOn_112 (if (q13.1 77 (fhix ((q13.1 0 101) - (1 : Int32)))) = (23 : Int32) then (5 : Int32) else (6 : Int32)) (fhI (fhI q13 0 101 ((q13.1 0 101) - (1 : Int32))) 0 102 ((q13.1 0 102) - (1 : Int32)))
    else none
  else none
noncomputable def f_X12_qGoesOn_0  (σ : fhM) : Option ((fhM) ⊕ (Bool × fhM)) :=
  if (σ.1 0 5) = 0 then
    Option.bind (f_X12_look σ) fun q1 =>
    if q1.1 = (41 : Int32) then
      Option.bind (f_X12_qBracket q1.2) fun q2 =>
      if q2 = (20 : Int32) then
        f_X12_qGoesOn_43 q1.2
      else
        Option.bind (f_X12_qBracket q1.2) fun q3 =>
        if q3 = (23 : Int32) then
          f_X12_qGoesOn_43 q1.2
        else
          Option.bind (f_X12_qBracket q1.2) fun q4 =>
          if q4 = (24 : Int32) then
            f_X12_qGoesOn_43 q1.2
          else
            Option.map Sum.inr (f_X12_qGoesOn_122 q1.2)
    else
      Option.map Sum.inr (f_X12_qGoesOn_122 q1.2)
  else
    Option.map Sum.inr (f_X12_qGoesOn_122 σ)
noncomputable def f_X12_qGoesOn  (σ : fhM) : Option (Bool × fhM) :=
  fhlp (fun x => f_X12_qGoesOn_0 x) σ
noncomputable def f_X12_qSums_78 (v1 : Int32) (σ : fhM) : Option (fhM) :=
  some (fhI σ 0 103 v1)
noncomputable def f_X12_qSums_53 (v1 : Int32) (σ : fhM) : Option ((fhM) ⊕ (fhM)) :=
  if (σ.1 0 5) = 0 then
    if (σ.1 0 101) ≤ (σ.1 0 103) then
      Option.map Sum.inr (f_X12_qSums_78 v1 σ)
    else
      Option.bind (f_X12_qDrops σ) fun q3 =>
      some (.inl q3)
  else
    Option.map Sum.inr (f_X12_qSums_78 v1 σ)
noncomputable def f_X12_qSums_49 (v1 : Int32) (s0 : Int32) (σ : fhM) : Option ((Int32 × fhM) ⊕ (fhM)) :=
  some (.inl (s0, σ))
noncomputable def f_X12_qSums_48 (v1 : Int32) (σ : fhM) : Option ((Int32 × fhM) ⊕ (fhM)) :=
  f_X12_qSums_49 v1 (0 : Int32) σ
noncomputable def f_X12_qSums_15 (v1 : Int32) (v2 : Int32) (σ : fhM) : Option ((Int32 × fhM) ⊕ (fhM)) :=
  if v2 = 0 then
    Option.map Sum.inr (fhlp (fun x => f_X12_qSums_53 v1 x) σ)
  else
    if (σ.1 0 5) = 0 then
      Option.bind (f_X12_qPartTold σ) fun q1 =>
      if (q1.1 0 5) = 0 then
        Option.bind (f_X12_qGoesOn q1) fun q2 =>
        if q2.1 = true then
          f_X12_qSums_49 v1 (1 : Int32) q2.2
        else
          f_X12_qSums_48 v1 q2.2
      else
        f_X12_qSums_48 v1 q1
    else
      Option.map Sum.inr (fhlp (fun x => f_X12_qSums_53 v1 x) σ)
noncomputable def f_X12_qSums  (σ : fhM) : Option (fhM) :=
  fhlp (fun x => f_X12_qSums_15 (σ.1 0 103) x.1 x.2) ((1 : Int32), (fhI σ 0 103 (σ.1 0 101)))
noncomputable def f_X12_qFact_102 (s0 : Int32) (σ : fhM) : Option (fhM) :=
  Option.bind (f_X12_qCode s0 σ) fun q7 =>
  some q7
noncomputable def f_X12_qFact_63 (v1 : Int32) (σ : fhM) : Option (fhM) :=
  Option.bind (f_X12_qSums (fhI σ 0 2 ((σ.1 0 2) + (1 : Int32)))) fun q6 =>
  f_X12_qFact_102 (if v1 = (60 : Int32) then (7 : Int32) else (if v1 = (62 : Int32) then (8 : Int32) else (9 : Int32))) q6
noncomputable def f_X12_qFact  (σ : fhM) : Option (fhM) :=
  Option.bind (f_X12_takes 61 σ) fun q1 =>
  if q1.1 = true then
    Option.bind (f_X12_qCode (13 : Int32) q1.2) fun q5 =>
    some q5
  else
    Option.bind (f_X12_qSums q1.2) fun q2 =>
    if (q2.1 0 5) = 0 then
      Option.bind (f_X12_look q2) fun q3 =>
      if q3.1 = (60 : Int32) then
        f_X12_qFact_63 q3.1 q3.2
      else
        if q3.1 = (62 : Int32) then
          f_X12_qFact_63 q3.1 q3.2
        else
          if q3.1 = (61 : Int32) then
            f_X12_qFact_63 q3.1 q3.2
          else
            fhlet (f_X12_fail (1 : Int32) (q3.2.1 0 2) q3.2) fun q4 =>
            some q4
    else
      some q2
noncomputable def f_X12_qDropsNots_0  (σ : fhM) : Option ((fhM) ⊕ (fhM)) :=
  if (σ.1 0 5) = 0 then
    Option.bind (f_X12_qIsOn (12 : Int32) σ) fun q1 =>
    if q1 = true then
      Option.bind (f_X12_qDrops (fhI σ 0 102 ((σ.1 0 102) - (1 : Int32)))) fun q2 =>
      some (.inl q2)
    else
      some (.inr σ)
  else
    some (.inr σ)
noncomputable def f_X12_qDropsNots  (σ : fhM) : Option (fhM) :=
  fhlp (fun x => f_X12_qDropsNots_0 x) σ
noncomputable def f_X12_qHasSquare_2 (v1 : Int32) (σ : fhM) : Option ((Int32) ⊕ (Bool)) :=
  if (σ.1 0 101) ≤ v1 then
    some (.inr false)
  else
    if (fhin v1 1700 && true) = true then
    if (σ.1 77 (fhix v1)) = (25 : Int32) then
      some (.inr true)
    else
      some (.inl (v1 + (1 : Int32)))
    else none
noncomputable def f_X12_qHasSquare  (σ : fhM) : Option (Bool) :=
  fhlp (fun x => f_X12_qHasSquare_2 x σ) (0 : Int32)
noncomputable def f_X12_qGoesOnTest_155  (σ : fhM) : Option ((fhM) ⊕ (Bool × fhM)) :=
  Option.bind (f_X12_qDrops σ) fun q14 =>
  some (.inl q14)
noncomputable def f_X12_qGoesOnTest_137  (σ : fhM) : Option ((fhM) ⊕ (Bool × fhM)) :=
  Option.bind (f_X12_qIsOn (10 : Int32) σ) fun q10 =>
  if q10 = true then
    f_X12_qGoesOnTest_155 σ
  else
    Option.bind (f_X12_qIsOn (11 : Int32) σ) fun q11 =>
    if q11 = true then
      f_X12_qGoesOnTest_155 σ
    else
      if (fhin (σ.1 0 101) 1700 && true) = true then
      some (.inr (true, (fhI (fhI σ 77 (fhix (σ.1 0 101)) (11 : Int32)) 0 101 ((σ.1 0 101) + (1 : Int32)))))
      else none
noncomputable def f_X12_qGoesOnTest_87  (σ : fhM) : Option ((fhM) ⊕ (Bool × fhM)) :=
  Option.bind (f_X12_qIsOn (10 : Int32) σ) fun q12 =>
  if q12 = true then
    Option.bind (f_X12_qDrops σ) fun q13 =>
    some (.inl q13)
  else
    if (fhin (σ.1 0 101) 1700 && true) = true then
    some (.inr (true, (fhI (fhI σ 77 (fhix (σ.1 0 101)) (10 : Int32)) 0 101 ((σ.1 0 101) + (1 : Int32)))))
    else none
noncomputable def f_X12_qGoesOnTest_76  (σ : fhM) : Option (Bool × fhM) :=
  Option.bind (f_X12_takes 59 σ) fun q3 =>
  if q3.1 = true then
    fhlp (fun x => f_X12_qGoesOnTest_87 x) q3.2
  else
    Option.bind (f_X12_takes 60 q3.2) fun q4 =>
    if q4.1 = true then
      fhlp (fun x => f_X12_qGoesOnTest_137 x) q4.2
    else
      if (q4.2.1 0 5) = 0 then
        Option.bind (f_X12_qHasSquare q4.2) fun q5 =>
        if q5 = true then
          fhlet (f_X12_fail (1 : Int32) (q4.2.1 0 2) q4.2) fun q6 =>
          some (false, q6)
        else
          some (false, q4.2)
      else
        some (false, q4.2)
noncomputable def f_X12_qGoesOnTest_33  (σ : fhM) : Option ((fhM) ⊕ ((fhM) ⊕ (Bool × fhM))) :=
  Option.bind (f_X12_qIsOn (25 : Int32) σ) fun q7 =>
  if q7 = true then
    Option.bind (f_X12_qDropsNots (fhI (fhI σ 0 101 ((σ.1 0 101) - (1 : Int32))) 0 102 ((σ.1 0 102) - (1 : Int32)))) fun q8 =>
    some (.inr (.inl q8))
  else
    Option.bind (f_X12_qDrops σ) fun q9 =>
    some (.inl q9)
noncomputable def f_X12_qGoesOnTest_0  (σ : fhM) : Option ((fhM) ⊕ (Bool × fhM)) :=
  if (σ.1 0 5) = 0 then
    Option.bind (f_X12_look σ) fun q1 =>
    if q1.1 = (93 : Int32) then
      Option.bind (f_X12_qHasSquare q1.2) fun q2 =>
      if q2 = true then
        fhlp (fun x => f_X12_qGoesOnTest_33 x) (fhI q1.2 0 2 ((q1.2.1 0 2) + (1 : Int32)))
      else
        Option.map Sum.inr (f_X12_qGoesOnTest_76 q1.2)
    else
      Option.map Sum.inr (f_X12_qGoesOnTest_76 q1.2)
  else
    Option.map Sum.inr (f_X12_qGoesOnTest_76 σ)
noncomputable def f_X12_qGoesOnTest  (σ : fhM) : Option (Bool × fhM) :=
  fhlp (fun x => f_X12_qGoesOnTest_0 x) σ
noncomputable def f_X12_qTest_110  (σ : fhM) : Option ((fhM) ⊕ (fhM)) :=
  if (σ.1 0 5) = 0 then
    if (σ.1 0 101) ≤ 0 then
      some (.inr σ)
    else
      Option.bind (f_X12_qDrops σ) fun q9 =>
      some (.inl q9)
  else
    some (.inr σ)
noncomputable def f_X12_qTest_106 (s0 : Int32) (σ : fhM) : Option ((Int32 × fhM) ⊕ (fhM)) :=
  some (.inl (s0, σ))
noncomputable def f_X12_qTest_105  (σ : fhM) : Option ((Int32 × fhM) ⊕ (fhM)) :=
  f_X12_qTest_106 (0 : Int32) σ
noncomputable def f_X12_qTest_2 (v1 : Int32) (σ : fhM) : Option ((Int32 × fhM) ⊕ (fhM)) :=
  if v1 = 0 then
    Option.map Sum.inr (fhlp (fun x => f_X12_qTest_110 x) σ)
  else
    if (σ.1 0 5) = 0 then
      Option.bind (f_X12_look σ) fun q1 =>
      if q1.1 = (91 : Int32) then
        Option.bind (f_X12_qOpens (25 : Int32) (q1.2.1 0 2) q1.2) fun q8 =>
        some (.inl (v1, (fhI q8 0 2 ((q8.1 0 2) + (1 : Int32)))))
      else
        Option.bind (f_X12_isHere 58 q1.2) fun q2 =>
        if q2.1 = true then
          Option.bind (f_X12_qOpens (12 : Int32) (q2.2.1 0 2) q2.2) fun q6 =>
          Option.bind (f_X12_asks 58 q6) fun q7 =>
          some (.inl (v1, q7))
        else
          Option.bind (f_X12_qFact q2.2) fun q3 =>
          Option.bind (f_X12_qDropsNots q3) fun q4 =>
          if (q4.1 0 5) = 0 then
            Option.bind (f_X12_qGoesOnTest q4) fun q5 =>
            if q5.1 = true then
              f_X12_qTest_106 (1 : Int32) q5.2
            else
              f_X12_qTest_105 q5.2
          else
            f_X12_qTest_105 q4
    else
      Option.map Sum.inr (fhlp (fun x => f_X12_qTest_110 x) σ)
noncomputable def f_X12_qTest  (σ : fhM) : Option (fhM) :=
  fhlp (fun x => f_X12_qTest_2 x.1 x.2) ((1 : Int32), σ)
noncomputable def f_X12_testTold_81 (v1 : Int32) (v4 : Int32) (v5 : Int32) (σ : fhM) : Option ((Int32 × fhM) ⊕ (fhM)) :=
  if (σ.1 0 99) ≤ v5 then
    if (fhin v4 12 && (fhin v1 10 && (fhin v1 10 && true))) = true then
    some (.inr (fhI (fhI σ 34 (fhix v4) (σ.1 0 45)) 29 (fhix v1) ((σ.1 29 (fhix v1)) + (1 : Int32))))
    else none
  else
    if (fhin v5 1700 && (fhin (σ.1 0 45) 1600 && true)) = true then
    some (.inl ((v5 + (1 : Int32)), (fhI (fhI σ 35 (fhix (σ.1 0 45)) (σ.1 76 (fhix v5))) 0 45 ((σ.1 0 45) + (1 : Int32)))))
    else none
noncomputable def f_X12_testTold_58 (v1 : Int32) (s0 : Int32) (σ : fhM) : Option (fhM) :=
  if (fhin v1 10 && (fhin (s0 + (σ.1 29 (fhix v1))) 12 && true)) = true then
  fhlp (fun x => f_X12_testTold_81 v1 (s0 + (σ.1 29 (fhix v1))) x.1 x.2) ((0 : Int32), (fhI σ 33 (fhix (s0 + (σ.1 29 (fhix v1)))) (σ.1 0 45)))
  else none
noncomputable def f_X12_testTold (v1 : Int32) (v2 : Int32) (v3 : Int32) (σ : fhM) : Option (fhM) :=
  Option.bind (f_X12_isFull v1 v2 v3 σ) fun q1 =>
  if q1.1 = true then
    some q1.2
  else
    Option.bind (f_X12_qTest (fhI (fhI (fhI (fhI (fhI q1.2 0 48 (0 : Int32)) 0 99 (0 : Int32)) 0 101 (0 : Int32)) 0 102 (0 : Int32)) 0 103 (0 : Int32))) fun q2 =>
    if (q2.1 0 5) = 0 then
      f_X12_testTold_58 v1 (if v1 = (2 : Int32) then (0 : Int32) else (4 : Int32)) q2
    else
      some q2
noncomputable def f_X12_statementTold_122  (σ : fhM) : Option (fhM) :=
  Option.bind (f_X12_asksSign (59 : Int32) σ) fun q12 =>
  some (fhI q12 0 46 ((q12.1 0 46) + (1 : Int32)))
noncomputable def f_X12_statementTold  (σ : fhM) : Option (fhM) :=
  if (σ.1 0 46) = (60 : Int32) then
    fhlet (f_X12_fail (5 : Int32) (σ.1 0 2) σ) fun q11 =>
    some q11
  else
    Option.bind (f_X12_takes 4 σ) fun q1 =>
    if q1.1 = true then
      Option.bind (f_X12_guestTold (σ.1 0 2) q1.2) fun q10 =>
      f_X12_statementTold_122 q10
    else
      Option.bind (f_X12_takes 6 q1.2) fun q2 =>
      if q2.1 = true then
        Option.bind (f_X12_blindTold q2.2) fun q9 =>
        f_X12_statementTold_122 q9
      else
        Option.bind (f_X12_takes 8 q2.2) fun q3 =>
        if q3.1 = true then
          Option.bind (f_X12_testTold (2 : Int32) (4 : Int32) (σ.1 0 2) q3.2) fun q8 =>
          f_X12_statementTold_122 q8
        else
          Option.bind (f_X12_takes 9 q3.2) fun q4 =>
          if q4.1 = true then
            Option.bind (f_X12_testTold (3 : Int32) (8 : Int32) (σ.1 0 2) q4.2) fun q7 =>
            f_X12_statementTold_122 q7
          else
            Option.bind (f_X12_asks 10 q4.2) fun q5 =>
            Option.bind (f_X12_number (0 : Int32) (100 : Int32) q5) fun q6 =>
            f_X12_statementTold_122 (fhI q6.2 29 4 q6.1)
noncomputable def f_X12_laysRow_11 (v2 : Int32) (v3 : Int32) (v4 : Int32) (v5 : Int32) (σ : fhM) : Option ((Int32 × Int32 × fhM) ⊕ (fhM)) :=
  if v3 ≤ v5 then
    some (.inr σ)
  else
    if (fhnz v2 && (fhin v5 5 && (fhnz v2 && true))) = true then
    some (.inl ((v4 / v2), (v5 + (1 : Int32)), (fhI σ 36 (fhix v5) (fhrem v4 v2))))
    else none
noncomputable def f_X12_laysRow (v1 : Int32) (v2 : Int32) (v3 : Int32) (σ : fhM) : Option (fhM) :=
  fhlp (fun x => f_X12_laysRow_11 v2 v3 x.1 x.2.1 x.2.2) (v1, (0 : Int32), (fhI σ 0 50 v3))
noncomputable def f_X12_rowSum_4 (v1 : Int32) (v2 : Int32) (σ : fhM) : Option ((Int32 × Int32) ⊕ (Int32)) :=
  if (σ.1 0 50) ≤ v2 then
    some (.inr v1)
  else
    if (fhin v2 5 && true) = true then
    some (.inl ((v1 + (σ.1 36 (fhix v2))), (v2 + (1 : Int32))))
    else none
noncomputable def f_X12_rowSum  (σ : fhM) : Option (Int32) :=
  fhlp (fun x => f_X12_rowSum_4 x.1 x.2 σ) ((0 : Int32), (0 : Int32))
noncomputable def f_X12_rowTop_29 (v1 : Int32) (v2 : Int32) (σ : fhM) : Option ((Int32 × Int32) ⊕ (Int32)) :=
  some (.inl (v1, (v2 + (1 : Int32))))
noncomputable def f_X12_rowTop_4 (v1 : Int32) (v2 : Int32) (σ : fhM) : Option ((Int32 × Int32) ⊕ (Int32)) :=
  if (σ.1 0 50) ≤ v2 then
    some (.inr v1)
  else
    if (fhin v2 5 && true) = true then
    if (σ.1 36 (fhix v2)) ≤ v1 then
      f_X12_rowTop_29 v1 v2 σ
    else
      if (fhin v2 5 && true) = true then
      f_X12_rowTop_29 (σ.1 36 (fhix v2)) v2 σ
      else none
    else none
noncomputable def f_X12_rowTop  (σ : fhM) : Option (Int32) :=
  fhlp (fun x => f_X12_rowTop_4 x.1 x.2 σ) ((0 : Int32), (0 : Int32))
noncomputable def f_X12_rowLow_32 (v1 : Int32) (v2 : Int32) (σ : fhM) : Option ((Int32 × Int32) ⊕ (Int32)) :=
  some (.inl (v1, (v2 + (1 : Int32))))
noncomputable def f_X12_rowLow_7 (v1 : Int32) (v2 : Int32) (σ : fhM) : Option ((Int32 × Int32) ⊕ (Int32)) :=
  if (σ.1 0 50) ≤ v2 then
    some (.inr v1)
  else
    if (fhin v2 5 && true) = true then
    if v1 ≤ (σ.1 36 (fhix v2)) then
      f_X12_rowLow_32 v1 v2 σ
    else
      if (fhin v2 5 && true) = true then
      f_X12_rowLow_32 (σ.1 36 (fhix v2)) v2 σ
      else none
    else none
noncomputable def f_X12_rowLow  (σ : fhM) : Option (Int32) :=
  Option.bind (f_X12_rowTop σ) fun q1 =>
  fhlp (fun x => f_X12_rowLow_7 x.1 x.2 σ) (q1, (0 : Int32))
noncomputable def f_X12_countOf_30 (v1 : Int64) (v3 : Int32) (v4 : Int32) (σ : fhM) : Option ((Int32 × Int32) ⊕ (Int32)) :=
  some (.inl (v3, (v4 + (1 : Int32))))
noncomputable def f_X12_countOf_5 (v1 : Int64) (v3 : Int32) (v4 : Int32) (σ : fhM) : Option ((Int32 × Int32) ⊕ (Int32)) :=
  if (σ.1 0 50) ≤ v4 then
    some (.inr v3)
  else
    if (fhin v4 5 && true) = true then
    f_X12_countOf_30 v1 (if (lg_cmp (Int32.toInt64 (σ.1 36 (fhix v4))) v1) = 0 then (v3 + (1 : Int32)) else v3) v4 σ
    else none
noncomputable def f_X12_countOf (v1 : Int64) (σ : fhM) : Option (Int32) :=
  fhlp (fun x => f_X12_countOf_5 v1 x.1 x.2 σ) ((0 : Int32), (0 : Int32))
noncomputable def f_X12_rowKinds_21 (v1 : Int32) (v2 : Int32) (σ : fhM) : Option ((Int32 × Int32) ⊕ (Int32)) :=
  some (.inl (v1, (v2 + (1 : Int32))))
noncomputable def f_X12_rowKinds_4 (v1 : Int32) (v2 : Int32) (σ : fhM) : Option ((Int32 × Int32) ⊕ (Int32)) :=
  if (4 : Int32) ≤ v2 then
    some (.inr v1)
  else
    Option.bind (f_X12_countOf (Int32.toInt64 v2) σ) fun q1 =>
    f_X12_rowKinds_21 (if q1 ≤ 0 then v1 else (v1 + (1 : Int32))) v2 σ
noncomputable def f_X12_rowKinds  (σ : fhM) : Option (Int32) :=
  fhlp (fun x => f_X12_rowKinds_4 x.1 x.2 σ) ((0 : Int32), (0 : Int32))
noncomputable def f_X12_loadsTest_12 (v1 : Int32) (v2 : Int32) (σ : fhM) : Option ((Int32 × fhM) ⊕ (fhM)) :=
  if (fhin v1 12 && true) = true then
  if (σ.1 34 (fhix v1)) ≤ v2 then
    some (.inr σ)
  else
    if (fhin v2 1600 && (fhin (σ.1 0 99) 1700 && true)) = true then
    some (.inl ((v2 + (1 : Int32)), (fhI (fhI σ 76 (fhix (σ.1 0 99)) (σ.1 35 (fhix v2))) 0 99 ((σ.1 0 99) + (1 : Int32)))))
    else none
  else none
noncomputable def f_X12_loadsTest (v1 : Int32) (σ : fhM) : Option (fhM) :=
  if (fhin v1 12 && true) = true then
  fhlp (fun x => f_X12_loadsTest_12 v1 x.1 x.2) ((σ.1 33 (fhix v1)), (fhI σ 0 99 (0 : Int32)))
  else none
noncomputable def f_X12_wornRow_11 (v1 : Int32) (v2 : Int32) (σ : fhM) : Option ((Int32 × Int32) ⊕ (Int32)) :=
  if v2 < 0 then
    some (.inr v1)
  else
    if (fhin v2 5 && true) = true then
    some (.inl ((((σ.1 29 0) * v1) + (σ.1 31 (fhix v2))), (v2 + (-1 : Int32))))
    else none
noncomputable def f_X12_wornRow  (σ : fhM) : Option (Int32) :=
  fhlp (fun x => f_X12_wornRow_11 x.1 x.2 σ) ((0 : Int32), ((σ.1 29 1) - (1 : Int32)))
noncomputable def f_X12_qPuts (v1 : Int64) (σ : fhM) : Option (fhM) :=
  if (fhin (σ.1 0 105) 1700 && true) = true then
  some (fhI (fhJ σ 78 (fhix (σ.1 0 105)) v1) 0 105 ((σ.1 0 105) + (1 : Int32)))
  else none
noncomputable def f_X12_guestMany  (σ : fhM) : Int32 :=
  (σ.1 29 6)
noncomputable def f_X12_isGuest (v1 : Int64) (σ : fhM) : Bool :=
  (f_X12_isIn v1 (0 : Int64) (Int32.toInt64 ((f_X12_guestMany σ) - (1 : Int32))) σ)
noncomputable def f_X12_markMany  (σ : fhM) : Int32 :=
  (σ.1 29 5)
noncomputable def f_X12_qOf (v1 : Int32) (v2 : Int64) (v4 : Int32) (σ : fhM) : Option (Int64) :=
  if v1 = (0 : Int32) then
    Option.bind (f_X12_countOf v2 σ) fun q1 =>
    some (Int32.toInt64 q1)
  else
  if v1 = (1 : Int32) then
    if (f_X12_isGuest v2 σ) = true then
      if (fhin ((5 : Int32) + v4) 10 && true) = true then
      some ((Int32.toInt64 ((σ.1 32 (fhix ((5 : Int32) + v4))) >>> ((Int64.toInt32 v2) &&& 31))) &&& (1 : Int64))
      else none
    else
      some (0 : Int64)
  else
  if (f_X12_isIn v2 (0 : Int64) (Int32.toInt64 ((f_X12_markMany σ) - (1 : Int32))) σ) = true then
    if (fhin v4 5 && true) = true then
    some ((Int32.toInt64 ((σ.1 48 (fhix v4)) >>> ((Int64.toInt32 v2) &&& 31))) &&& (1 : Int64))
    else none
  else
    some (0 : Int64)
noncomputable def f_X12_qClip (v0 : Int64) (σ : fhM) : Int64 :=
  if (lg_cmp v0 (1000000 : Int64)) ≤ 0 then
    if 0 ≤ (lg_cmp v0 (-1000000 : Int64)) then
      v0
    else
      (-1000000 : Int64)
  else
    (1000000 : Int64)
noncomputable def f_X12_markOf_5 (v2 : Int32) (v3 : Int32) (v4 : Int32) (σ : fhM) : Option ((Int32 × Int32) ⊕ (Int32)) :=
  if v2 ≤ v4 then
    if (fhnz (f_X12_markMany σ) && true) = true then
    some (.inr (fhrem v3 (f_X12_markMany σ)))
    else none
  else
    if (fhnz (f_X12_markMany σ) && true) = true then
    some (.inl ((v3 / (f_X12_markMany σ)), (v4 + (1 : Int32))))
    else none
noncomputable def f_X12_markOf (v1 : Int32) (v2 : Int32) (σ : fhM) : Option (Int32) :=
  fhlp (fun x => f_X12_markOf_5 v2 x.1 x.2 σ) (v1, (0 : Int32))
noncomputable def f_X12_qPartOf (v1 : Int32) (v2 : Int32) (σ : fhM) : Option (Int64) :=
  if v1 < (12 : Int32) then
    if v1 = (0 : Int32) then
      Option.bind (f_X12_rowSum σ) fun q1 =>
      some (Int32.toInt64 q1)
    else
    if v1 = (1 : Int32) then
      Option.bind (f_X12_rowTop σ) fun q2 =>
      some (Int32.toInt64 q2)
    else
    if v1 = (2 : Int32) then
      Option.bind (f_X12_rowLow σ) fun q3 =>
      some (Int32.toInt64 q3)
    else
    if v1 = (3 : Int32) then
      Option.bind (f_X12_rowKinds σ) fun q4 =>
      some (Int32.toInt64 q4)
    else
    if v1 = (4 : Int32) then
      some (Int32.toInt64 (σ.1 0 51))
    else
    if v1 = (5 : Int32) then
      Option.bind (f_X12_markOf (σ.1 44 1) (σ.1 0 51) σ) fun q5 =>
      some (Int32.toInt64 q5)
    else
    if v1 = (6 : Int32) then
      if (fhin (σ.1 0 51) 5 && true) = true then
      some (Int32.toInt64 (σ.1 47 (fhix (σ.1 0 51))))
      else none
    else
    if v1 = (7 : Int32) then
      if (fhin (σ.1 0 51) 5 && true) = true then
      if (f_X12_isOne (σ.1 48 (fhix (σ.1 0 51))) σ) = true then
        some (1 : Int64)
      else
        some (0 : Int64)
      else none
    else
    some (Int32.toInt64 (σ.1 44 0))
  else
    if (fhin (v1 - (12 : Int32)) 5 && true) = true then
    some (Int32.toInt64 (σ.1 36 (fhix (v1 - (12 : Int32)))))
    else none
noncomputable def f_X12_qFloor_53 (v4 : Int64) (σ : fhM) : Option (Int64) :=
  some v4
noncomputable def f_X12_qFloor_43 (v4 : Int64) (s0 : Int32) (s1 : Int32) (σ : fhM) : Option (Int64) :=
  if s1 = s0 then
    f_X12_qFloor_53 v4 σ
  else
    some (v4 - (1 : Int64))
noncomputable def f_X12_qFloor_32 (v2 : Int64) (v4 : Int64) (s0 : Int32) (σ : fhM) : Option (Int64) :=
  f_X12_qFloor_43 v4 (if 0 ≤ (lg_cmp v2 (0 : Int64)) then (0 : Int32) else (1 : Int32)) s0 σ
noncomputable def f_X12_qFloor (v0 : Int64) (v2 : Int64) (σ : fhM) : Option (Int64) :=
  if (lg_cmp v2 (0 : Int64)) = 0 then
    some (0 : Int64)
  else
    if (fhnzl v2 && (fhnzl v2 && true)) = true then
    if (lg_cmp (fhreml v0 v2) (0 : Int64)) = 0 then
      f_X12_qFloor_53 (v0 / v2) σ
    else
      f_X12_qFloor_32 v2 (v0 / v2) (if 0 ≤ (lg_cmp v0 (0 : Int64)) then (0 : Int32) else (1 : Int32)) σ
    else none
noncomputable def f_X12_qJoins_270 (s0 : Int64) (σ : fhM) : Option (fhM) :=
  Option.bind (f_X12_qPuts s0 σ) fun q12 =>
  some q12
noncomputable def f_X12_qJoins_161 (s0 : Int64) (σ : fhM) : Option (fhM) :=
  Option.bind (f_X12_qPuts s0 σ) fun q7 =>
  some q7
noncomputable def f_X12_qJoins_181 (s0 : Int64) (σ : fhM) : Option (fhM) :=
  Option.bind (f_X12_qPuts s0 σ) fun q8 =>
  some q8
noncomputable def f_X12_qJoins_200 (s0 : Int64) (σ : fhM) : Option (fhM) :=
  Option.bind (f_X12_qPuts s0 σ) fun q9 =>
  some q9
noncomputable def f_X12_qJoins_219 (s0 : Int64) (σ : fhM) : Option (fhM) :=
  Option.bind (f_X12_qPuts s0 σ) fun q10 =>
  some q10
noncomputable def f_X12_qJoins_238 (s0 : Int64) (σ : fhM) : Option (fhM) :=
  Option.bind (f_X12_qPuts s0 σ) fun q11 =>
  some q11
noncomputable def f_X12_qJoins (v1 : Int32) (σ : fhM) : Option (fhM) :=
  if (fhin ((σ.1 0 105) - (1 : Int32)) 1700 && (fhin ((σ.1 0 105) - (2 : Int32)) 1700 && true)) = true then
  if v1 = (1 : Int32) then
    Option.bind (f_X12_qPuts (f_X12_qClip ((σ.2.1 78 (fhix ((σ.1 0 105) - (2 : Int32)))) + (σ.2.1 78 (fhix ((σ.1 0 105) - (1 : Int32))))) (fhI σ 0 105 ((σ.1 0 105) - (2 : Int32)))) (fhI σ 0 105 ((σ.1 0 105) - (2 : Int32)))) fun q1 =>
    some q1
  else
  if v1 = (2 : Int32) then
    Option.bind (f_X12_qPuts (f_X12_qClip ((σ.2.1 78 (fhix ((σ.1 0 105) - (2 : Int32)))) - (σ.2.1 78 (fhix ((σ.1 0 105) - (1 : Int32))))) (fhI σ 0 105 ((σ.1 0 105) - (2 : Int32)))) (fhI σ 0 105 ((σ.1 0 105) - (2 : Int32)))) fun q2 =>
    some q2
  else
  if v1 = (3 : Int32) then
    Option.bind (f_X12_qPuts (f_X12_qClip ((σ.2.1 78 (fhix ((σ.1 0 105) - (2 : Int32)))) * (σ.2.1 78 (fhix ((σ.1 0 105) - (1 : Int32))))) (fhI σ 0 105 ((σ.1 0 105) - (2 : Int32)))) (fhI σ 0 105 ((σ.1 0 105) - (2 : Int32)))) fun q3 =>
    some q3
  else
  if v1 = (4 : Int32) then
    Option.bind (f_X12_qFloor (σ.2.1 78 (fhix ((σ.1 0 105) - (2 : Int32)))) (σ.2.1 78 (fhix ((σ.1 0 105) - (1 : Int32)))) (fhI σ 0 105 ((σ.1 0 105) - (2 : Int32)))) fun q4 =>
    Option.bind (f_X12_qPuts q4 (fhI σ 0 105 ((σ.1 0 105) - (2 : Int32)))) fun q5 =>
    some q5
  else
  if v1 = (5 : Int32) then
    f_X12_qJoins_161 (if 0 ≤ (lg_cmp (σ.2.1 78 (fhix ((σ.1 0 105) - (2 : Int32)))) (σ.2.1 78 (fhix ((σ.1 0 105) - (1 : Int32))))) then (σ.2.1 78 (fhix ((σ.1 0 105) - (1 : Int32)))) else (σ.2.1 78 (fhix ((σ.1 0 105) - (2 : Int32))))) (fhI σ 0 105 ((σ.1 0 105) - (2 : Int32)))
  else
  if v1 = (6 : Int32) then
    f_X12_qJoins_181 (if (lg_cmp (σ.2.1 78 (fhix ((σ.1 0 105) - (2 : Int32)))) (σ.2.1 78 (fhix ((σ.1 0 105) - (1 : Int32))))) ≤ 0 then (σ.2.1 78 (fhix ((σ.1 0 105) - (1 : Int32)))) else (σ.2.1 78 (fhix ((σ.1 0 105) - (2 : Int32))))) (fhI σ 0 105 ((σ.1 0 105) - (2 : Int32)))
  else
  if v1 = (7 : Int32) then
    f_X12_qJoins_200 (if 0 ≤ (lg_cmp (σ.2.1 78 (fhix ((σ.1 0 105) - (2 : Int32)))) (σ.2.1 78 (fhix ((σ.1 0 105) - (1 : Int32))))) then (0 : Int64) else (1 : Int64)) (fhI σ 0 105 ((σ.1 0 105) - (2 : Int32)))
  else
  if v1 = (8 : Int32) then
    f_X12_qJoins_219 (if (lg_cmp (σ.2.1 78 (fhix ((σ.1 0 105) - (2 : Int32)))) (σ.2.1 78 (fhix ((σ.1 0 105) - (1 : Int32))))) ≤ 0 then (0 : Int64) else (1 : Int64)) (fhI σ 0 105 ((σ.1 0 105) - (2 : Int32)))
  else
  if v1 = (9 : Int32) then
    f_X12_qJoins_238 (if (lg_cmp (σ.2.1 78 (fhix ((σ.1 0 105) - (2 : Int32)))) (σ.2.1 78 (fhix ((σ.1 0 105) - (1 : Int32))))) = 0 then (1 : Int64) else (0 : Int64)) (fhI σ 0 105 ((σ.1 0 105) - (2 : Int32)))
  else
  if v1 = (10 : Int32) then
    Option.bind (f_X12_qPuts ((σ.2.1 78 (fhix ((σ.1 0 105) - (2 : Int32)))) * (σ.2.1 78 (fhix ((σ.1 0 105) - (1 : Int32))))) (fhI σ 0 105 ((σ.1 0 105) - (2 : Int32)))) fun q6 =>
    some q6
  else
  f_X12_qJoins_270 (if (lg_cmp ((σ.2.1 78 (fhix ((σ.1 0 105) - (2 : Int32)))) + (σ.2.1 78 (fhix ((σ.1 0 105) - (1 : Int32))))) (0 : Int64)) ≤ 0 then (0 : Int64) else (1 : Int64)) (fhI σ 0 105 ((σ.1 0 105) - (2 : Int32)))
  else none
noncomputable def f_X12_qTold_162 (v1 : Int32) (v2 : Int32) (σ : fhM) : Option ((Int32 × fhM) ⊕ (Int64 × fhM)) :=
  some (.inl ((v2 + (1 : Int32)), σ))
noncomputable def f_X12_qTold_7 (v1 : Int32) (v2 : Int32) (σ : fhM) : Option ((Int32 × fhM) ⊕ (Int64 × fhM)) :=
  if (σ.1 0 99) ≤ v2 then
    some (.inr ((σ.2.1 78 0), σ))
  else
    if (fhin v2 1700 && true) = true then
    if (σ.1 76 (fhix v2)) < (1000 : Int32) then
      if (σ.1 76 (fhix v2)) < (60 : Int32) then
        if (σ.1 76 (fhix v2)) < (40 : Int32) then
          if (σ.1 76 (fhix v2)) = (13 : Int32) then
            Option.bind (f_X12_qPuts (1 : Int64) σ) fun q2 =>
            f_X12_qTold_162 v1 v2 q2
          else
            if (σ.1 76 (fhix v2)) = (12 : Int32) then
              if (fhin ((σ.1 0 105) - (1 : Int32)) 1700 && (fhin ((σ.1 0 105) - (1 : Int32)) 1700 && true)) = true then
              f_X12_qTold_162 v1 v2 (fhJ σ 78 (fhix ((σ.1 0 105) - (1 : Int32))) ((1 : Int64) - (σ.2.1 78 (fhix ((σ.1 0 105) - (1 : Int32))))))
              else none
            else
              Option.bind (f_X12_qJoins (σ.1 76 (fhix v2)) σ) fun q1 =>
              f_X12_qTold_162 v1 v2 q1
        else
          Option.bind (f_X12_qPartOf ((σ.1 76 (fhix v2)) - (40 : Int32)) v1 σ) fun q3 =>
          Option.bind (f_X12_qPuts (f_X12_qClip q3 σ) σ) fun q4 =>
          f_X12_qTold_162 v1 v2 q4
      else
        if (fhin ((σ.1 0 105) - (1 : Int32)) 1700 && true) = true then
        Option.bind (f_X12_qOf ((σ.1 76 (fhix v2)) - (60 : Int32)) (σ.2.1 78 (fhix ((σ.1 0 105) - (1 : Int32)))) v1 σ) fun q5 =>
        if (fhin ((σ.1 0 105) - (1 : Int32)) 1700 && true) = true then
        f_X12_qTold_162 v1 v2 (fhJ σ 78 (fhix ((σ.1 0 105) - (1 : Int32))) (f_X12_qClip q5 σ))
        else none
        else none
    else
      Option.bind (f_X12_qPuts (Int32.toInt64 ((σ.1 76 (fhix v2)) - (1000 : Int32))) σ) fun q6 =>
      f_X12_qTold_162 v1 v2 q6
    else none
noncomputable def f_X12_qTold (v1 : Int32) (σ : fhM) : Option (Int64 × fhM) :=
  fhlp (fun x => f_X12_qTold_7 v1 x.1 x.2) ((0 : Int32), (fhI σ 0 105 (0 : Int32)))
noncomputable def f_X12_rulesHold_64 (v1 : Int32) (σ : fhM) : Option ((Int32 × fhM) ⊕ (fhM)) :=
  some (.inl ((v1 + (1 : Int32)), σ))
noncomputable def f_X12_rulesHold_2 (v1 : Int32) (σ : fhM) : Option ((Int32 × fhM) ⊕ (fhM)) :=
  if (σ.1 29 2) ≤ v1 then
    some (.inr σ)
  else
    if (σ.1 0 5) = 0 then
      Option.bind (f_X12_loadsTest v1 σ) fun q1 =>
      Option.bind (f_X12_wornRow q1) fun q2 =>
      Option.bind (f_X12_laysRow q2 (q1.1 29 0) (q1.1 29 1) q1) fun q3 =>
      Option.bind (f_X12_qTold (0 : Int32) q3) fun q4 =>
      if (lg_cmp q4.1 (1 : Int64)) = 0 then
        f_X12_rulesHold_64 v1 q4.2
      else
        fhlet (f_X12_fail (6 : Int32) (q4.2.1 0 3) q4.2) fun q5 =>
        f_X12_rulesHold_64 v1 q5
    else
      some (.inr σ)
noncomputable def f_X12_rulesHold  (σ : fhM) : Option (fhM) :=
  fhlp (fun x => f_X12_rulesHold_2 x.1 x.2) ((0 : Int32), σ)
noncomputable def f_X12_refuses (v1 : Int32) (σ : fhM) : Option (Int32 × fhM) :=
  if (fhin v1 6 && (fhin v1 6 && true)) = true then
  some ((-1 : Int32), (fhI σ 2 (fhix v1) ((σ.1 2 (fhix v1)) + (1 : Int32))))
  else none
noncomputable def f_X12_keyOf_49 (v1 : Int32) (v2 : Int32) (v4 : Int32) (s0 : Int32) (s1 : Int32) (σ : fhM) : Option ((Int32 × Int32) ⊕ (Int32)) :=
  some (.inl ((s1 + s0), (v4 + (-1 : Int32))))
noncomputable def f_X12_keyOf_10 (v1 : Int32) (v2 : Int32) (v3 : Int32) (v4 : Int32) (σ : fhM) : Option ((Int32 × Int32) ⊕ (Int32)) :=
  if v4 < 0 then
    some (.inr v3)
  else
    if (fhin ((5 : Int32) + v2) 10 && true) = true then
    if (((σ.1 32 (fhix ((5 : Int32) + v2))) >>> (v4 &&& 31)) &&& (1 : Int32)) = (1 : Int32) then
      Option.bind (f_X12_markOf v1 v4 σ) fun q1 =>
      f_X12_keyOf_49 v1 v2 v4 q1 ((f_X12_markMany σ) * v3) σ
    else
      f_X12_keyOf_49 v1 v2 v4 (0 : Int32) ((f_X12_markMany σ) * v3) σ
    else none
noncomputable def f_X12_keyOf (v1 : Int32) (v2 : Int32) (σ : fhM) : Option (Int32) :=
  fhlp (fun x => f_X12_keyOf_10 v1 v2 x.1 x.2 σ) ((0 : Int32), ((f_X12_guestMany σ) - (1 : Int32)))
noncomputable def f_X12_laysTests_234 (v1 : Int32) (σ : fhM) : Option ((Int32 × fhM) ⊕ (fhM)) :=
  some (.inl ((v1 + (1 : Int32)), σ))
noncomputable def f_X12_laysTests_207 (v1 : Int32) (σ : fhM) : Option ((Int32 × fhM) ⊕ (fhM)) :=
  if (σ.1 0 52) ≤ v1 then
    some (.inr σ)
  else
    if (fhin v1 1024 && true) = true then
    if (σ.1 37 (fhix v1)) = 0 then
      f_X12_laysTests_234 v1 σ
    else
      f_X12_laysTests_234 v1 (fhI σ 0 53 ((σ.1 0 53) + (1 : Int32)))
    else none
noncomputable def f_X12_laysTests_194 (v1 : Int32) (σ : fhM) : Option ((Int32 × fhM) ⊕ (fhM)) :=
  some (.inl ((v1 + (1 : Int32)), σ))
noncomputable def f_X12_laysTests_188 (v1 : Int32) (v2 : Int32) (σ : fhM) : Option ((Int32 × fhM) ⊕ ((Int32 × fhM) ⊕ (fhM))) :=
  some (.inl ((v2 + (1 : Int32)), σ))
noncomputable def f_X12_laysTests_165 (v1 : Int32) (v2 : Int32) (v3 : Int32) (σ : fhM) : Option ((Int32 × fhM) ⊕ ((Int32 × fhM) ⊕ (fhM))) :=
  if v1 < (4 : Int32) then
    f_X12_laysTests_188 v1 v2 σ
  else
    if v3 = 0 then
      f_X12_laysTests_188 v1 v2 σ
    else
      if (fhin v2 1024 && (fhin v2 1024 && true)) = true then
      f_X12_laysTests_188 v1 v2 (fhI σ 38 (fhix v2) ((σ.1 38 (fhix v2)) ||| ((1 : Int32) <<< ((v1 - (4 : Int32)) &&& 31))))
      else none
noncomputable def f_X12_laysTests_148 (v1 : Int32) (v2 : Int32) (s0 : Int32) (σ : fhM) : Option ((Int32 × fhM) ⊕ ((Int32 × fhM) ⊕ (fhM))) :=
  if (4 : Int32) ≤ v1 then
    f_X12_laysTests_165 v1 v2 s0 σ
  else
    if s0 = 0 then
      if (fhin v2 1024 && true) = true then
      f_X12_laysTests_165 v1 v2 s0 (fhI σ 37 (fhix v2) ((0 : Int32) &&& 1))
      else none
    else
      f_X12_laysTests_165 v1 v2 s0 σ
noncomputable def f_X12_laysTests_112 (v1 : Int32) (v2 : Int32) (σ : fhM) : Option ((Int32 × fhM) ⊕ ((Int32 × fhM) ⊕ (fhM))) :=
  if (σ.1 0 52) ≤ v2 then
    Option.map Sum.inr (f_X12_laysTests_194 v1 σ)
  else
    Option.bind (f_X12_laysRow v2 (f_X12_markMany σ) (f_X12_guestMany σ) σ) fun q3 =>
    Option.bind (f_X12_qTold (0 : Int32) q3) fun q4 =>
    f_X12_laysTests_148 v1 v2 (if (lg_cmp q4.1 (1 : Int64)) = 0 then (1 : Int32) else (0 : Int32)) q4.2
noncomputable def f_X12_laysTests_105 (v1 : Int32) (σ : fhM) : Option ((Int32 × fhM) ⊕ (fhM)) :=
  Option.bind (f_X12_loadsTest v1 σ) fun q2 =>
  fhlp (fun x => f_X12_laysTests_112 v1 x.1 x.2) ((0 : Int32), q2)
noncomputable def f_X12_laysTests_66 (v1 : Int32) (σ : fhM) : Option ((Int32 × fhM) ⊕ (fhM)) :=
  if (12 : Int32) ≤ v1 then
    Option.map Sum.inr (fhlp (fun x => f_X12_laysTests_207 x.1 x.2) ((0 : Int32), (fhI σ 0 53 (0 : Int32))))
  else
    if (4 : Int32) ≤ v1 then
      if (v1 - (4 : Int32)) < (σ.1 29 3) then
        f_X12_laysTests_105 v1 σ
      else
        f_X12_laysTests_194 v1 σ
    else
      if v1 < (σ.1 29 2) then
        f_X12_laysTests_105 v1 σ
      else
        f_X12_laysTests_194 v1 σ
noncomputable def f_X12_laysTests_26 (v1 : Int32) (v2 : Int32) (σ : fhM) : Option ((Int32 × fhM) ⊕ ((Int32 × fhM) ⊕ (fhM))) :=
  if (f_X12_guestMany σ) ≤ v2 then
    some (.inr (.inl ((v1 + (1 : Int32)), σ)))
  else
    Option.bind (f_X12_keyOf v1 v2 σ) fun q1 =>
    if (fhin (((1024 : Int32) * v2) + v1) 5120 && true) = true then
    some (.inl ((v2 + (1 : Int32)), (fhI σ 39 (fhix (((1024 : Int32) * v2) + v1)) q1)))
    else none
noncomputable def f_X12_laysTests_2 (v1 : Int32) (σ : fhM) : Option ((Int32 × fhM) ⊕ (fhM)) :=
  if (σ.1 0 52) ≤ v1 then
    Option.map Sum.inr (fhlp (fun x => f_X12_laysTests_66 x.1 x.2) ((0 : Int32), σ))
  else
    if (fhin v1 1024 && (fhin v1 1024 && true)) = true then
    fhlp (fun x => f_X12_laysTests_26 v1 x.1 x.2) ((0 : Int32), (fhI (fhI σ 37 (fhix v1) ((1 : Int32) &&& 1)) 38 (fhix v1) (0 : Int32)))
    else none
noncomputable def f_X12_laysTests  (σ : fhM) : Option (fhM) :=
  fhlp (fun x => f_X12_laysTests_2 x.1 x.2) ((0 : Int32), σ)
noncomputable def f_X12_laysGroups_103 (v1 : Int32) (v2 : Int32) (σ : fhM) : Option ((Int32 × fhM) ⊕ ((Int32 × fhM) ⊕ (fhM))) :=
  some (.inl ((v2 + (1 : Int32)), σ))
noncomputable def f_X12_laysGroups_85 (v1 : Int32) (v2 : Int32) (v3 : Int32) (σ : fhM) : Option ((Int32 × fhM) ⊕ ((Int32 × fhM) ⊕ (fhM))) :=
  if (fhin v3 32768 && (fhin (((1024 : Int32) * v1) + v2) 5120 && true)) = true then
  f_X12_laysGroups_103 v1 v2 (fhI σ 41 (fhix (((1024 : Int32) * v1) + v2)) (σ.1 43 (fhix v3)))
  else none
noncomputable def f_X12_laysGroups_35 (v1 : Int32) (v2 : Int32) (σ : fhM) : Option ((Int32 × fhM) ⊕ ((Int32 × fhM) ⊕ (fhM))) :=
  if (σ.1 0 52) ≤ v2 then
    some (.inr (.inl ((v1 + (1 : Int32)), σ)))
  else
    if (fhin v2 1024 && true) = true then
    if (σ.1 37 (fhix v2)) = 0 then
      f_X12_laysGroups_103 v1 v2 σ
    else
      if (fhin (((1024 : Int32) * v1) + v2) 5120 && (fhin (σ.1 39 (fhix (((1024 : Int32) * v1) + v2))) 32768 && true)) = true then
      if (σ.1 43 (fhix (σ.1 39 (fhix (((1024 : Int32) * v1) + v2))))) = (-1 : Int32) then
        if (fhin (σ.1 39 (fhix (((1024 : Int32) * v1) + v2))) 32768 && true) = true then
        f_X12_laysGroups_85 v1 v2 (σ.1 39 (fhix (((1024 : Int32) * v1) + v2))) (fhI σ 43 (fhix (σ.1 39 (fhix (((1024 : Int32) * v1) + v2)))) v2)
        else none
      else
        f_X12_laysGroups_85 v1 v2 (σ.1 39 (fhix (((1024 : Int32) * v1) + v2))) σ
      else none
    else none
noncomputable def f_X12_laysGroups_12 (v1 : Int32) (v2 : Int32) (σ : fhM) : Option ((Int32 × fhM) ⊕ ((Int32 × fhM) ⊕ (fhM))) :=
  if (σ.1 0 52) ≤ v2 then
    Option.map Sum.inr (fhlp (fun x => f_X12_laysGroups_35 v1 x.1 x.2) ((0 : Int32), σ))
  else
    if (fhin v2 32768 && true) = true then
    some (.inl ((v2 + (1 : Int32)), (fhI σ 43 (fhix v2) (-1 : Int32))))
    else none
noncomputable def f_X12_laysGroups_2 (v1 : Int32) (σ : fhM) : Option ((Int32 × fhM) ⊕ (fhM)) :=
  if (f_X12_guestMany σ) ≤ v1 then
    some (.inr σ)
  else
    fhlp (fun x => f_X12_laysGroups_12 v1 x.1 x.2) ((0 : Int32), σ)
noncomputable def f_X12_laysGroups  (σ : fhM) : Option (fhM) :=
  fhlp (fun x => f_X12_laysGroups_2 x.1 x.2) ((0 : Int32), σ)
noncomputable def f_X12_laysRound_175 (v1 : Int32) (v2 : Int32) (v3 : Int32) (σ : fhM) : Option ((Int32 × fhM) ⊕ ((Int32 × fhM) ⊕ (fhM))) :=
  some (.inl ((v3 + (1 : Int32)), σ))
noncomputable def f_X12_laysRound_117 (v1 : Int32) (v2 : Int32) (v3 : Int32) (σ : fhM) : Option ((Int32 × fhM) ⊕ ((Int32 × fhM) ⊕ (fhM))) :=
  if (σ.1 0 52) ≤ v3 then
    some (.inr (.inl ((v2 + (1 : Int32)), σ)))
  else
    if (fhin v3 1024 && true) = true then
    if (σ.1 37 (fhix v3)) = 0 then
      f_X12_laysRound_175 v1 v2 v3 σ
    else
      if (fhin (((1024 : Int32) * v2) + v3) 5120 && (fhin (σ.1 41 (fhix (((1024 : Int32) * v2) + v3))) 1024 && true)) = true then
      if (f_X12_isOne (σ.1 42 (fhix (σ.1 41 (fhix (((1024 : Int32) * v2) + v3))))) σ) = true then
        if (fhin (((1024 : Int32) * v1) + v3) 21504 && (fhin (((1024 : Int32) * v1) + v3) 21504 && true)) = true then
        f_X12_laysRound_175 v1 v2 v3 (fhI σ 40 (fhix (((1024 : Int32) * v1) + v3)) ((σ.1 40 (fhix (((1024 : Int32) * v1) + v3))) ||| ((1 : Int32) <<< (v2 &&& 31))))
        else none
      else
        f_X12_laysRound_175 v1 v2 v3 σ
      else none
    else none
noncomputable def f_X12_laysRound_109 (v1 : Int32) (v2 : Int32) (v3 : Int32) (σ : fhM) : Option ((Int32 × fhM) ⊕ ((Int32 × fhM) ⊕ (fhM))) :=
  some (.inl ((v3 + (1 : Int32)), σ))
noncomputable def f_X12_laysRound_64 (v1 : Int32) (v2 : Int32) (v3 : Int32) (σ : fhM) : Option ((Int32 × fhM) ⊕ ((Int32 × fhM) ⊕ (fhM))) :=
  if (σ.1 0 52) ≤ v3 then
    Option.map Sum.inr (fhlp (fun x => f_X12_laysRound_117 v1 v2 x.1 x.2) ((0 : Int32), σ))
  else
    if (fhin v3 1024 && true) = true then
    if (σ.1 37 (fhix v3)) = 0 then
      f_X12_laysRound_109 v1 v2 v3 σ
    else
      if (fhin (((1024 : Int32) * v2) + v3) 5120 && (fhin (σ.1 41 (fhix (((1024 : Int32) * v2) + v3))) 1024 && true)) = true then
      Option.bind (f_X12_markOf v3 v2 σ) fun q1 =>
      if (fhin (σ.1 41 (fhix (((1024 : Int32) * v2) + v3))) 1024 && true) = true then
      f_X12_laysRound_109 v1 v2 v3 (fhI σ 42 (fhix (σ.1 41 (fhix (((1024 : Int32) * v2) + v3)))) ((σ.1 42 (fhix (σ.1 41 (fhix (((1024 : Int32) * v2) + v3))))) ||| ((1 : Int32) <<< (q1 &&& 31))))
      else none
      else none
    else none
noncomputable def f_X12_laysRound_41 (v1 : Int32) (v2 : Int32) (v3 : Int32) (σ : fhM) : Option ((Int32 × fhM) ⊕ ((Int32 × fhM) ⊕ (fhM))) :=
  if (σ.1 0 52) ≤ v3 then
    Option.map Sum.inr (fhlp (fun x => f_X12_laysRound_64 v1 v2 x.1 x.2) ((0 : Int32), σ))
  else
    if (fhin v3 1024 && true) = true then
    some (.inl ((v3 + (1 : Int32)), (fhI σ 42 (fhix v3) (0 : Int32))))
    else none
noncomputable def f_X12_laysRound_31 (v1 : Int32) (v2 : Int32) (σ : fhM) : Option ((Int32 × fhM) ⊕ (fhM)) :=
  if (f_X12_guestMany σ) ≤ v2 then
    some (.inr σ)
  else
    fhlp (fun x => f_X12_laysRound_41 v1 v2 x.1 x.2) ((0 : Int32), σ)
noncomputable def f_X12_laysRound_2 (v1 : Int32) (v2 : Int32) (σ : fhM) : Option ((Int32 × fhM) ⊕ (fhM)) :=
  if (σ.1 0 52) ≤ v2 then
    Option.map Sum.inr (fhlp (fun x => f_X12_laysRound_31 v1 x.1 x.2) ((0 : Int32), σ))
  else
    if (fhin (((1024 : Int32) * v1) + v2) 21504 && true) = true then
    some (.inl ((v2 + (1 : Int32)), (fhI σ 40 (fhix (((1024 : Int32) * v1) + v2)) (0 : Int32))))
    else none
noncomputable def f_X12_laysRound (v1 : Int32) (σ : fhM) : Option (fhM) :=
  fhlp (fun x => f_X12_laysRound_2 v1 x.1 x.2) ((0 : Int32), σ)
noncomputable def f_X12_splitsGroups_126 (v1 : Int32) (v2 : Int32) (v3 : Int32) (σ : fhM) : Option ((Int32 × fhM) ⊕ ((Int32 × fhM) ⊕ (fhM))) :=
  some (.inl ((v3 + (1 : Int32)), σ))
noncomputable def f_X12_splitsGroups_107 (v1 : Int32) (v2 : Int32) (v3 : Int32) (v4 : Int32) (σ : fhM) : Option ((Int32 × fhM) ⊕ ((Int32 × fhM) ⊕ (fhM))) :=
  if (fhin v4 32768 && (fhin (((1024 : Int32) * v2) + v3) 5120 && true)) = true then
  f_X12_splitsGroups_126 v1 v2 v3 (fhI σ 41 (fhix (((1024 : Int32) * v2) + v3)) (σ.1 43 (fhix v4)))
  else none
noncomputable def f_X12_splitsGroups_38 (v1 : Int32) (v2 : Int32) (v3 : Int32) (σ : fhM) : Option ((Int32 × fhM) ⊕ ((Int32 × fhM) ⊕ (fhM))) :=
  if (σ.1 0 52) ≤ v3 then
    some (.inr (.inl ((v2 + (1 : Int32)), σ)))
  else
    if (fhin v3 1024 && true) = true then
    if (σ.1 37 (fhix v3)) = 0 then
      f_X12_splitsGroups_126 v1 v2 v3 σ
    else
      if (fhin (((1024 : Int32) * v2) + v3) 5120 && (fhin (((1024 : Int32) * v1) + v3) 21504 && true)) = true then
      fhlet (((32 : Int32) * (σ.1 41 (fhix (((1024 : Int32) * v2) + v3)))) + (σ.1 40 (fhix (((1024 : Int32) * v1) + v3)))) fun w4_1 =>
      if (fhin w4_1 32768 && true) = true then
      if (σ.1 43 (fhix w4_1)) = (-1 : Int32) then
        if (fhin w4_1 32768 && true) = true then
        f_X12_splitsGroups_107 v1 v2 v3 w4_1 (fhI σ 43 (fhix w4_1) v3)
        else none
      else
        f_X12_splitsGroups_107 v1 v2 v3 w4_1 σ
      else none
      else none
    else none
noncomputable def f_X12_splitsGroups_12 (v1 : Int32) (v2 : Int32) (v3 : Int32) (σ : fhM) : Option ((Int32 × fhM) ⊕ ((Int32 × fhM) ⊕ (fhM))) :=
  if ((32 : Int32) * (σ.1 0 52)) ≤ v3 then
    Option.map Sum.inr (fhlp (fun x => f_X12_splitsGroups_38 v1 v2 x.1 x.2) ((0 : Int32), σ))
  else
    if (fhin v3 32768 && true) = true then
    some (.inl ((v3 + (1 : Int32)), (fhI σ 43 (fhix v3) (-1 : Int32))))
    else none
noncomputable def f_X12_splitsGroups_2 (v1 : Int32) (v2 : Int32) (σ : fhM) : Option ((Int32 × fhM) ⊕ (fhM)) :=
  if (f_X12_guestMany σ) ≤ v2 then
    some (.inr σ)
  else
    fhlp (fun x => f_X12_splitsGroups_12 v1 v2 x.1 x.2) ((0 : Int32), σ)
noncomputable def f_X12_splitsGroups (v1 : Int32) (σ : fhM) : Option (fhM) :=
  fhlp (fun x => f_X12_splitsGroups_2 v1 x.1 x.2) ((0 : Int32), σ)
noncomputable def f_X12_laysAnew_28 (v1 : Int32) (σ : fhM) : Option ((Int32 × fhM) ⊕ (fhM)) :=
  some (.inl ((v1 + (1 : Int32)), σ))
noncomputable def f_X12_laysAnew_6 (v1 : Int32) (σ : fhM) : Option ((Int32 × fhM) ⊕ (fhM)) :=
  if (20 : Int32) < v1 then
    some (.inr σ)
  else
    Option.bind (f_X12_laysRound v1 σ) fun q2 =>
    if (20 : Int32) ≤ v1 then
      f_X12_laysAnew_28 v1 q2
    else
      Option.bind (f_X12_splitsGroups v1 q2) fun q3 =>
      f_X12_laysAnew_28 v1 q3
noncomputable def f_X12_laysAnew  (σ : fhM) : Option (fhM) :=
  Option.bind (f_X12_laysGroups σ) fun q1 =>
  fhlp (fun x => f_X12_laysAnew_6 x.1 x.2) ((0 : Int32), q1)
noncomputable def f_X12_begins_45 (v1 : Int32) (s0 : Int32) (s1 : Int32) (σ : fhM) : Option ((Int32 × fhM) ⊕ (fhM)) :=
  if (fhin s1 1187 && true) = true then
  some (.inl ((v1 + (1 : Int32)), (fhI σ 44 (fhix s1) s0)))
  else none
noncomputable def f_X12_begins_44 (v1 : Int32) (s0 : Int32) (σ : fhM) : Option ((Int32 × fhM) ⊕ (fhM)) :=
  f_X12_begins_45 v1 (0 : Int32) s0 σ
noncomputable def f_X12_begins_9 (v1 : Int32) (σ : fhM) : Option ((Int32 × fhM) ⊕ (fhM)) :=
  if (1024 : Int32) ≤ v1 then
    some (.inr σ)
  else
    if (σ.1 0 52) ≤ v1 then
      f_X12_begins_44 v1 ((2 : Int32) + v1) σ
    else
      if (fhin v1 1024 && true) = true then
      if (σ.1 37 (fhix v1)) = 0 then
        f_X12_begins_44 v1 ((2 : Int32) + v1) σ
      else
        f_X12_begins_45 v1 (1 : Int32) ((2 : Int32) + v1) σ
      else none
noncomputable def f_X12_begins  (σ : fhM) : Option (fhM) :=
  fhlp (fun x => f_X12_begins_9 x.1 x.2) ((0 : Int32), (fhI σ 44 0 (0 : Int32)))
noncomputable def f_X12_stands_128 (v1 : Int32) (σ : fhM) : Option ((Int32 × fhM) ⊕ (fhM)) :=
  if (1187 : Int32) ≤ v1 then
    Option.bind (f_X12_wornRow σ) fun q3 =>
    Option.bind (f_X12_begins (fhI σ 44 1 q3)) fun q4 =>
    some (.inr (fhI (fhI q4 0 71 (0 : Int32)) 0 68 (0 : Int32)))
  else
    if (fhin v1 1187 && true) = true then
    some (.inl ((v1 + (1 : Int32)), (fhI σ 44 (fhix v1) (0 : Int32))))
    else none
noncomputable def f_X12_stands_91 (v1 : Int32) (σ : fhM) : Option ((Int32 × fhM) ⊕ (fhM)) :=
  if (f_X12_guestMany σ) ≤ v1 then
    Option.bind (f_X12_laysTests σ) fun q1 =>
    Option.bind (f_X12_laysAnew q1) fun q2 =>
    Option.map Sum.inr (fhlp (fun x => f_X12_stands_128 x.1 x.2) ((0 : Int32), q2))
  else
    some (.inl ((v1 + (1 : Int32)), (fhI σ 0 52 ((σ.1 0 52) * (f_X12_markMany σ)))))
noncomputable def f_X12_stands_34 (v1 : Int32) (σ : fhM) : Option ((Int32 × fhM) ⊕ (fhM)) :=
  if (5 : Int32) ≤ v1 then
    Option.map Sum.inr (fhlp (fun x => f_X12_stands_91 x.1 x.2) ((0 : Int32), (fhI σ 0 52 (1 : Int32))))
  else
    if (fhin v1 10 && (fhin ((5 : Int32) + v1) 10 && (fhin v1 10 && (fhin ((5 : Int32) + v1) 10 && true)))) = true then
    some (.inl ((v1 + (1 : Int32)), (fhI (fhJ σ 30 (fhix ((5 : Int32) + v1)) (σ.2.1 30 (fhix v1))) 32 (fhix ((5 : Int32) + v1)) ((σ.1 32 (fhix v1)) &&& (((1 : Int32) <<< ((σ.1 29 1) &&& 31)) - (1 : Int32))))))
    else none
noncomputable def f_X12_stands_7 (v1 : Int32) (σ : fhM) : Option ((Int32 × fhM) ⊕ (fhM)) :=
  if (5 : Int32) ≤ v1 then
    Option.map Sum.inr (fhlp (fun x => f_X12_stands_34 x.1 x.2) ((0 : Int32), σ))
  else
    if (fhin v1 10 && (fhin ((5 : Int32) + v1) 10 && true)) = true then
    some (.inl ((v1 + (1 : Int32)), (fhI σ 29 (fhix ((5 : Int32) + v1)) (σ.1 29 (fhix v1)))))
    else none
noncomputable def f_X12_stands  (σ : fhM) : Option (fhM) :=
  fhlp (fun x => f_X12_stands_7 x.1 x.2) ((0 : Int32), (fhI σ 0 47 (1 : Int32)))
noncomputable def f_X12_parlour_127  (σ : fhM) : Option (Int32 × fhM) :=
  if (σ.1 0 5) = 0 then
    Option.bind (f_X12_stands (fhI (fhI σ 0 7 (σ.1 0 5)) 0 8 (σ.1 0 6))) fun q5 =>
    some ((q5.1 0 46), q5)
  else
    Option.bind (f_X12_refuses (1 : Int32) (fhI (fhI σ 0 7 (σ.1 0 5)) 0 8 (σ.1 0 6))) fun q6 =>
    some (q6.1, q6.2)
noncomputable def f_X12_parlour_116  (σ : fhM) : Option (Int32 × fhM) :=
  if (σ.1 0 5) = 0 then
    Option.bind (f_X12_rulesHold σ) fun q4 =>
    f_X12_parlour_127 q4
  else
    f_X12_parlour_127 σ
noncomputable def f_X12_parlour_94  (σ : fhM) : Option ((fhM) ⊕ (Int32 × fhM)) :=
  if (σ.1 0 5) = 0 then
    Option.bind (f_X12_look σ) fun q2 =>
    if q2.1 = (-1 : Int32) then
      Option.map Sum.inr (f_X12_parlour_116 q2.2)
    else
      Option.bind (f_X12_statementTold q2.2) fun q3 =>
      some (.inl q3)
  else
    Option.map Sum.inr (f_X12_parlour_116 σ)
noncomputable def f_X12_parlour_60 (v1 : Int32) (σ : fhM) : Option ((Int32 × fhM) ⊕ (Int32 × fhM)) :=
  if (5 : Int32) ≤ v1 then
    Option.bind (f_X12_marksTold σ) fun q1 =>
    Option.map Sum.inr (fhlp (fun x => f_X12_parlour_94 x) (fhI q1 0 46 (1 : Int32)))
  else
    if (fhin v1 10 && true) = true then
    some (.inl ((v1 + (1 : Int32)), (fhI σ 32 (fhix v1) ((31 : Int32) &&& (((1 : Int32) <<< (v1 &&& 31)) ^^^ (-1 : Int32))))))
    else none
noncomputable def f_X12_parlour_40 (v1 : Int32) (σ : fhM) : Option ((Int32 × fhM) ⊕ (Int32 × fhM)) :=
  if (5 : Int32) ≤ v1 then
    Option.map Sum.inr (fhlp (fun x => f_X12_parlour_60 x.1 x.2) ((0 : Int32), σ))
  else
    if (fhin v1 10 && true) = true then
    some (.inl ((v1 + (1 : Int32)), (fhI σ 29 (fhix v1) (0 : Int32))))
    else none
noncomputable def f_X12_parlour  (σ : fhM) : Option (Int32 × fhM) :=
  fhlp (fun x => f_X12_parlour_40 x.1 x.2) ((0 : Int32), (fhI (fhI (fhI (fhI (fhI (fhI (fhI σ 0 3 (σ.1 0 1)) 0 1 (0 : Int32)) 0 2 (0 : Int32)) 0 4 (-1 : Int32)) 0 5 (0 : Int32)) 0 6 (-1 : Int32)) 0 45 (0 : Int32)))
noncomputable def f_X12_factMany  (σ : fhM) : Int32 :=
  (σ.1 29 8)
noncomputable def f_X12_fault (v1 : Int32) (σ : fhM) : Int32 :=
  if v1 = 0 then
    (σ.1 0 7)
  else
    if v1 = (1 : Int32) then
      (σ.1 0 8)
    else
      (-1 : Int32)
noncomputable def f_X12_isLeft (v1 : Int32) (σ : fhM) : Option (Bool) :=
  if (fhin ((2 : Int32) + v1) 1187 && true) = true then
  if (σ.1 44 (fhix ((2 : Int32) + v1))) = (1 : Int32) then
    some true
  else
    some false
  else none
noncomputable def f_X12_leftMany_4 (v1 : Int32) (v2 : Int32) (σ : fhM) : Option ((Int32 × Int32) ⊕ (Int32)) :=
  if (1024 : Int32) ≤ v2 then
    some (.inr v1)
  else
    if (fhin ((2 : Int32) + v2) 1187 && true) = true then
    some (.inl ((v1 + (σ.1 44 (fhix ((2 : Int32) + v2)))), (v2 + (1 : Int32))))
    else none
noncomputable def f_X12_leftMany  (σ : fhM) : Option (Int32) :=
  fhlp (fun x => f_X12_leftMany_4 x.1 x.2 σ) ((0 : Int32), (0 : Int32))
noncomputable def f_X12_bits_4 (v1 : Int32) (v2 : Int32) (σ : fhM) : Option ((Int32 × Int32) ⊕ (Int32)) :=
  if v2 = 0 then
    some (.inr v1)
  else
    some (.inl ((v1 + (1 : Int32)), (v2 &&& (v2 - (1 : Int32)))))
noncomputable def f_X12_bits (v0 : Int32) (σ : fhM) : Option (Int32) :=
  fhlp (fun x => f_X12_bits_4 x.1 x.2 σ) ((0 : Int32), v0)
noncomputable def f_X12_putsAside_7 (v1 : Int32) (σ : fhM) : Option ((Int32 × fhM) ⊕ (fhM)) :=
  if (1026 : Int32) ≤ v1 then
    some (.inr σ)
  else
    if (fhin v1 1187 && (fhin v1 1026 && true)) = true then
    some (.inl ((v1 + (1 : Int32)), (fhI σ 45 (fhix v1) (σ.1 44 (fhix v1)))))
    else none
noncomputable def f_X12_putsAside  (σ : fhM) : Option (fhM) :=
  fhlp (fun x => f_X12_putsAside_7 x.1 x.2) ((0 : Int32), (fhI σ 0 62 (1 : Int32)))
noncomputable def f_X12_triesAnew_2 (v1 : Int32) (σ : fhM) : Option ((Int32 × fhM) ⊕ (fhM)) :=
  if (1026 : Int32) ≤ v1 then
    some (.inr σ)
  else
    if (fhin v1 1026 && (fhin v1 1187 && true)) = true then
    some (.inl ((v1 + (1 : Int32)), (fhI σ 44 (fhix v1) (σ.1 45 (fhix v1)))))
    else none
noncomputable def f_X12_triesAnew  (σ : fhM) : Option (fhM) :=
  fhlp (fun x => f_X12_triesAnew_2 x.1 x.2) ((0 : Int32), σ)
noncomputable def f_X12_takesBack  (σ : fhM) : Option (fhM) :=
  Option.bind (f_X12_triesAnew σ) fun q1 =>
  some (fhI q1 0 62 (0 : Int32))
noncomputable def f_X12_laysKnowing_161 (v1 : Int32) (v2 : Int32) (σ : fhM) : Option ((Int32 × fhM) ⊕ ((Int32 × fhM) ⊕ (fhM))) :=
  some (.inl ((v2 + (1 : Int32)), σ))
noncomputable def f_X12_laysKnowing_110 (v1 : Int32) (v2 : Int32) (σ : fhM) : Option ((Int32 × fhM) ⊕ ((Int32 × fhM) ⊕ (fhM))) :=
  if (σ.1 0 52) ≤ v2 then
    some (.inr (.inl ((v1 + (1 : Int32)), σ)))
  else
    Option.bind (f_X12_isLeft v2 σ) fun q3 =>
    if q3 = true then
      if (fhin (((1024 : Int32) * v1) + v2) 5120 && (fhin (σ.1 39 (fhix (((1024 : Int32) * v1) + v2))) 1024 && true)) = true then
      if (f_X12_isOne (σ.1 42 (fhix (σ.1 39 (fhix (((1024 : Int32) * v1) + v2))))) σ) = true then
        if (fhin v2 1024 && (fhin v2 1024 && true)) = true then
        f_X12_laysKnowing_161 v1 v2 (fhI σ 46 (fhix v2) ((σ.1 46 (fhix v2)) ||| ((1 : Int32) <<< (v1 &&& 31))))
        else none
      else
        f_X12_laysKnowing_161 v1 v2 σ
      else none
    else
      f_X12_laysKnowing_161 v1 v2 σ
noncomputable def f_X12_laysKnowing_102 (v1 : Int32) (v2 : Int32) (σ : fhM) : Option ((Int32 × fhM) ⊕ ((Int32 × fhM) ⊕ (fhM))) :=
  some (.inl ((v2 + (1 : Int32)), σ))
noncomputable def f_X12_laysKnowing_58 (v1 : Int32) (v2 : Int32) (σ : fhM) : Option ((Int32 × fhM) ⊕ ((Int32 × fhM) ⊕ (fhM))) :=
  if (σ.1 0 52) ≤ v2 then
    Option.map Sum.inr (fhlp (fun x => f_X12_laysKnowing_110 v1 x.1 x.2) ((0 : Int32), σ))
  else
    Option.bind (f_X12_isLeft v2 σ) fun q1 =>
    if q1 = true then
      if (fhin (((1024 : Int32) * v1) + v2) 5120 && (fhin (σ.1 39 (fhix (((1024 : Int32) * v1) + v2))) 1024 && true)) = true then
      Option.bind (f_X12_markOf v2 v1 σ) fun q2 =>
      if (fhin (σ.1 39 (fhix (((1024 : Int32) * v1) + v2))) 1024 && true) = true then
      f_X12_laysKnowing_102 v1 v2 (fhI σ 42 (fhix (σ.1 39 (fhix (((1024 : Int32) * v1) + v2)))) ((σ.1 42 (fhix (σ.1 39 (fhix (((1024 : Int32) * v1) + v2))))) ||| ((1 : Int32) <<< (q2 &&& 31))))
      else none
      else none
    else
      f_X12_laysKnowing_102 v1 v2 σ
noncomputable def f_X12_laysKnowing_35 (v1 : Int32) (v2 : Int32) (σ : fhM) : Option ((Int32 × fhM) ⊕ ((Int32 × fhM) ⊕ (fhM))) :=
  if (σ.1 0 52) ≤ v2 then
    Option.map Sum.inr (fhlp (fun x => f_X12_laysKnowing_58 v1 x.1 x.2) ((0 : Int32), σ))
  else
    if (fhin v2 1024 && true) = true then
    some (.inl ((v2 + (1 : Int32)), (fhI σ 42 (fhix v2) (0 : Int32))))
    else none
noncomputable def f_X12_laysKnowing_25 (v1 : Int32) (σ : fhM) : Option ((Int32 × fhM) ⊕ (fhM)) :=
  if (f_X12_guestMany σ) ≤ v1 then
    some (.inr σ)
  else
    fhlp (fun x => f_X12_laysKnowing_35 v1 x.1 x.2) ((0 : Int32), σ)
noncomputable def f_X12_laysKnowing_2 (v1 : Int32) (σ : fhM) : Option ((Int32 × fhM) ⊕ (fhM)) :=
  if (σ.1 0 52) ≤ v1 then
    Option.map Sum.inr (fhlp (fun x => f_X12_laysKnowing_25 x.1 x.2) ((0 : Int32), σ))
  else
    if (fhin v1 1024 && true) = true then
    some (.inl ((v1 + (1 : Int32)), (fhI σ 46 (fhix v1) (0 : Int32))))
    else none
noncomputable def f_X12_laysKnowing  (σ : fhM) : Option (fhM) :=
  fhlp (fun x => f_X12_laysKnowing_2 x.1 x.2) ((0 : Int32), σ)
noncomputable def f_X12_laysOwn_94 (v1 : Int32) (v2 : Int32) (σ : fhM) : Option ((Int32 × fhM) ⊕ (fhM)) :=
  some (.inl ((v2 + (1 : Int32)), σ))
noncomputable def f_X12_laysOwn_16 (v1 : Int32) (v2 : Int32) (σ : fhM) : Option ((Int32 × fhM) ⊕ (fhM)) :=
  if (σ.1 0 52) ≤ v2 then
    some (.inr σ)
  else
    Option.bind (f_X12_isLeft v2 σ) fun q1 =>
    if q1 = true then
      if (fhin (((1024 : Int32) * v1) + v2) 5120 && (fhin (((1024 : Int32) * v1) + (σ.1 44 1)) 5120 && true)) = true then
      if (σ.1 39 (fhix (((1024 : Int32) * v1) + v2))) = (σ.1 39 (fhix (((1024 : Int32) * v1) + (σ.1 44 1)))) then
        if (fhin v1 5 && (fhin v1 5 && (fhin v1 5 && true))) = true then
        Option.bind (f_X12_markOf v2 v1 (fhI σ 47 (fhix v1) ((σ.1 47 (fhix v1)) + (1 : Int32)))) fun q2 =>
        if (fhin v1 5 && true) = true then
        f_X12_laysOwn_94 v1 v2 (fhI (fhI σ 47 (fhix v1) ((σ.1 47 (fhix v1)) + (1 : Int32))) 48 (fhix v1) ((σ.1 48 (fhix v1)) ||| ((1 : Int32) <<< (q2 &&& 31))))
        else none
        else none
      else
        f_X12_laysOwn_94 v1 v2 σ
      else none
    else
      f_X12_laysOwn_94 v1 v2 σ
noncomputable def f_X12_laysOwn (v1 : Int32) (σ : fhM) : Option (fhM) :=
  if (fhin v1 5 && (fhin v1 5 && true)) = true then
  fhlp (fun x => f_X12_laysOwn_16 v1 x.1 x.2) ((0 : Int32), (fhI (fhI σ 47 (fhix v1) (0 : Int32)) 48 (fhix v1) (0 : Int32)))
  else none
noncomputable def f_X12_doesKnow (v1 : Int32) (σ : fhM) : Option (Bool × fhM) :=
  Option.bind (f_X12_laysOwn v1 σ) fun q1 =>
  if (fhin v1 5 && true) = true then
  some ((f_X12_isOne (q1.1 48 (fhix v1)) q1), q1)
  else none
noncomputable def f_X12_knowersNow_26 (v1 : Int32) (v2 : Int32) (σ : fhM) : Option ((Int32 × Int32 × fhM) ⊕ (Int32 × fhM)) :=
  some (.inl (v1, (v2 + (1 : Int32)), σ))
noncomputable def f_X12_knowersNow_4 (v1 : Int32) (v2 : Int32) (σ : fhM) : Option ((Int32 × Int32 × fhM) ⊕ (Int32 × fhM)) :=
  if (f_X12_guestMany σ) ≤ v2 then
    some (.inr (v1, σ))
  else
    Option.bind (f_X12_doesKnow v2 σ) fun q1 =>
    f_X12_knowersNow_26 (if q1.1 = true then (v1 ||| ((1 : Int32) <<< (v2 &&& 31))) else v1) v2 q1.2
noncomputable def f_X12_knowersNow  (σ : fhM) : Option (Int32 × fhM) :=
  fhlp (fun x => f_X12_knowersNow_4 x.1 x.2.1 x.2.2) ((0 : Int32), (0 : Int32), σ)
noncomputable def f_X12_isKept_71 (v1 : Int32) (v2 : Int32) (v3 : Int32) (σ : fhM) : Option (fhM) :=
  fhlet (((1027 : Int32) + ((4 : Int32) * (σ.1 44 1026))) - (4 : Int32)) fun w4_1 =>
  if (fhin w4_1 1187 && (fhin (w4_1 + (1 : Int32)) 1187 && (fhin (w4_1 + (2 : Int32)) 1187 && true))) = true then
  Option.bind (f_X12_leftMany (fhI (fhI (fhI σ 44 (fhix w4_1) v1) 44 (fhix (w4_1 + (1 : Int32))) v2) 44 (fhix (w4_1 + (2 : Int32))) v3)) fun q1 =>
  if (fhin (w4_1 + (3 : Int32)) 1187 && true) = true then
  some (fhI (fhI (fhI (fhI σ 44 (fhix w4_1) v1) 44 (fhix (w4_1 + (1 : Int32))) v2) 44 (fhix (w4_1 + (2 : Int32))) v3) 44 (fhix (w4_1 + (3 : Int32))) q1)
  else none
  else none
noncomputable def f_X12_isKept_26 (v1 : Int32) (v2 : Int32) (v3 : Int32) (v4 : Int32) (σ : fhM) : Option ((Int32 × fhM) ⊕ (fhM)) :=
  if (1183 : Int32) ≤ v4 then
    Option.map Sum.inr (f_X12_isKept_71 v1 v2 v3 σ)
  else
    if (fhin (v4 + (4 : Int32)) 1187 && (fhin v4 1187 && true)) = true then
    some (.inl ((v4 + (1 : Int32)), (fhI σ 44 (fhix v4) (σ.1 44 (fhix (v4 + (4 : Int32)))))))
    else none
noncomputable def f_X12_isKept (v1 : Int32) (v2 : Int32) (v3 : Int32) (σ : fhM) : Option (fhM) :=
  if (σ.1 0 62) = 0 then
    if (σ.1 44 1026) = (40 : Int32) then
      fhlp (fun x => f_X12_isKept_26 v1 v2 v3 x.1 x.2) ((1027 : Int32), σ)
    else
      f_X12_isKept_71 v1 v2 v3 (fhI σ 44 1026 ((σ.1 44 1026) + (1 : Int32)))
  else
    some σ
noncomputable def f_X12_leavesAs_57 (v1 : Int32) (v2 : Int32) (v3 : Int32) (σ : fhM) : Option ((Int32 × fhM) ⊕ (Int32 × fhM)) :=
  some (.inl ((v3 + (1 : Int32)), σ))
noncomputable def f_X12_leavesAs_20 (v1 : Int32) (v2 : Int32) (v3 : Int32) (σ : fhM) : Option ((Int32 × fhM) ⊕ (Int32 × fhM)) :=
  if (σ.1 0 52) ≤ v3 then
    some (.inr (v2, σ))
  else
    Option.bind (f_X12_isLeft v3 σ) fun q2 =>
    if q2 = true then
      if (fhin v3 1024 && true) = true then
      if ((σ.1 46 (fhix v3)) &&& v1) = v2 then
        f_X12_leavesAs_57 v1 v2 v3 σ
      else
        if (fhin ((2 : Int32) + v3) 1187 && true) = true then
        f_X12_leavesAs_57 v1 v2 v3 (fhI σ 44 (fhix ((2 : Int32) + v3)) (0 : Int32))
        else none
      else none
    else
      f_X12_leavesAs_57 v1 v2 v3 σ
noncomputable def f_X12_leavesAs (v1 : Int32) (σ : fhM) : Option (Int32 × fhM) :=
  Option.bind (f_X12_laysKnowing σ) fun q1 =>
  if (fhin (q1.1 44 1) 1024 && true) = true then
  fhlp (fun x => f_X12_leavesAs_20 v1 ((q1.1 46 (fhix (q1.1 44 1))) &&& v1) x.1 x.2) ((0 : Int32), q1)
  else none
noncomputable def f_X12_roundGoes (v1 : Int32) (σ : fhM) : Option (Int32 × fhM) :=
  Option.bind (f_X12_leavesAs v1 σ) fun q1 =>
  Option.bind (f_X12_isKept (0 : Int32) (0 : Int32) q1.1 (fhI q1.2 44 0 ((q1.2.1 44 0) + (1 : Int32)))) fun q2 =>
  some (q1.1, q2)
noncomputable def f_X12_has (v1 : Int32) (σ : fhM) : Option (Int32 × fhM) :=
  if v1 = (0 : Int32) then
    if (fhin ((5 : Int32) + v1) 10 && true) = true then
    some ((σ.1 29 (fhix ((5 : Int32) + v1))), σ)
    else none
  else
  if v1 = (1 : Int32) then
    if (fhin ((5 : Int32) + v1) 10 && true) = true then
    some ((σ.1 29 (fhix ((5 : Int32) + v1))), σ)
    else none
  else
  if v1 = (2 : Int32) then
    if (fhin ((5 : Int32) + v1) 10 && true) = true then
    some ((σ.1 29 (fhix ((5 : Int32) + v1))), σ)
    else none
  else
  if v1 = (3 : Int32) then
    if (fhin ((5 : Int32) + v1) 10 && true) = true then
    some ((σ.1 29 (fhix ((5 : Int32) + v1))), σ)
    else none
  else
  if v1 = (4 : Int32) then
    some ((σ.1 44 0), σ)
  else
  if v1 = (5 : Int32) then
    if (σ.1 0 47) = 0 then
      some ((0 : Int32), σ)
    else
      Option.bind (f_X12_leftMany σ) fun q1 =>
      some (q1, σ)
  else
  if v1 = (6 : Int32) then
    some ((σ.1 0 53), σ)
  else
  if v1 = (7 : Int32) then
    Option.bind (f_X12_knowersNow σ) fun q2 =>
    Option.bind (f_X12_bits q2.1 q2.2) fun q3 =>
    some (q3, q2.2)
  else
  if v1 = (8 : Int32) then
    some ((σ.1 44 1026), σ)
  else
  if v1 = (9 : Int32) then
    some ((σ.1 0 68), σ)
  else
  if v1 = (10 : Int32) then
    some ((σ.1 0 71), σ)
  else
  some ((-1 : Int32), σ)
noncomputable def f_X12_letter_73 (v2 : Int32) (v3 : Int64) (v6 : Int32) (σ : fhM) : Option ((Int64 × Int32) ⊕ (Int32)) :=
  if v6 ≤ v2 then
    some (.inr (Int64.toInt32 (fhreml v3 (27 : Int64))))
  else
    some (.inl ((v3 / (27 : Int64)), (v6 + (-1 : Int32))))
noncomputable def f_X12_letter_38 (v2 : Int32) (v3 : Int64) (v5 : Int32) (v6 : Int64) (σ : fhM) : Option ((Int32 × Int64) ⊕ (Int32)) :=
  if (lg_cmp v6 (0 : Int64)) ≤ 0 then
    if v2 < v5 then
      Option.map Sum.inr (fhlp (fun x => f_X12_letter_73 v2 x.1 x.2 σ) (v3, (v5 - (1 : Int32))))
    else
      some (.inr (0 : Int32))
  else
    some (.inl ((v5 + (1 : Int32)), (v6 / (27 : Int64))))
noncomputable def f_X12_letter (v1 : Int32) (v2 : Int32) (σ : fhM) : Option (Int32) :=
  if (f_X12_isGuest (Int32.toInt64 v1) σ) = true then
    if (f_X12_isIn (Int32.toInt64 v2) (0 : Int64) (5 : Int64) σ) = true then
      if (fhin ((5 : Int32) + v1) 10 && true) = true then
      fhlp (fun x => f_X12_letter_38 v2 (σ.2.1 30 (fhix ((5 : Int32) + v1))) x.1 x.2 σ) ((0 : Int32), (σ.2.1 30 (fhix ((5 : Int32) + v1))))
      else none
    else
      some (-1 : Int32)
  else
    some (-1 : Int32)
noncomputable def f_X12_guest (v1 : Int32) (v2 : Int32) (σ : fhM) : Option (Int32 × fhM) :=
  if (f_X12_isGuest (Int32.toInt64 v1) σ) = true then
    Option.bind (f_X12_laysOwn v1 σ) fun q1 =>
    if v2 = (0 : Int32) then
      Option.bind (f_X12_markOf (q1.1 44 1) v1 q1) fun q2 =>
      some (q2, q1)
    else
    if v2 = (1 : Int32) then
      if (fhin ((5 : Int32) + v1) 10 && true) = true then
      some ((q1.1 32 (fhix ((5 : Int32) + v1))), q1)
      else none
    else
    if v2 = (2 : Int32) then
      if (fhin v1 5 && true) = true then
      some ((q1.1 47 (fhix v1)), q1)
      else none
    else
    if v2 = (3 : Int32) then
      if (fhin v1 5 && true) = true then
      if (f_X12_isOne (q1.1 48 (fhix v1)) q1) = true then
        some ((1 : Int32), q1)
      else
        some ((0 : Int32), q1)
      else none
    else
    if v2 = (4 : Int32) then
      if (fhin v1 5 && true) = true then
      some ((q1.1 48 (fhix v1)), q1)
      else none
    else
    some ((-1 : Int32), q1)
  else
    some ((-1 : Int32), σ)
noncomputable def f_X12_isFact (v1 : Int32) (σ : fhM) : Bool :=
  (f_X12_isIn (Int32.toInt64 v1) (0 : Int64) (Int32.toInt64 ((f_X12_factMany σ) - (1 : Int32))) σ)
noncomputable def f_X12_doesHold (v1 : Int32) (v2 : Int32) (σ : fhM) : Option (Bool) :=
  if (fhin v1 1024 && true) = true then
  if (((σ.1 38 (fhix v1)) >>> (v2 &&& 31)) &&& (1 : Int32)) = (1 : Int32) then
    some true
  else
    some false
  else none
noncomputable def f_X12_fact_114 (v1 : Int32) (v2 : Int32) (v3 : Int32) (v4 : Int32) (v5 : Int32) (σ : fhM) : Option ((Int32 × Int32) ⊕ (Int32)) :=
  some (.inl (v4, (v5 + (1 : Int32))))
noncomputable def f_X12_fact_111 (v1 : Int32) (v2 : Int32) (v3 : Int32) (v4 : Int32) (v5 : Int32) (σ : fhM) : Option ((Int32 × Int32) ⊕ (Int32)) :=
  f_X12_fact_114 v1 v2 v3 (v4 + (1 : Int32)) v5 σ
noncomputable def f_X12_fact_54 (v1 : Int32) (v2 : Int32) (v3 : Int32) (v4 : Int32) (v5 : Int32) (σ : fhM) : Option ((Int32 × Int32) ⊕ (Int32)) :=
  if (σ.1 0 52) ≤ v5 then
    some (.inr v4)
  else
    if v2 = (1 : Int32) then
      Option.bind (f_X12_isLeft v5 σ) fun q3 =>
      if q3 = true then
        Option.bind (f_X12_doesHold v5 v1 σ) fun q4 =>
        if (fhb q4) = v3 then
          f_X12_fact_111 v1 v2 v3 v4 v5 σ
        else
          f_X12_fact_114 v1 v2 v3 v4 v5 σ
      else
        f_X12_fact_114 v1 v2 v3 v4 v5 σ
    else
      if (fhin v5 1024 && true) = true then
      if (σ.1 37 (fhix v5)) = 0 then
        f_X12_fact_114 v1 v2 v3 v4 v5 σ
      else
        Option.bind (f_X12_doesHold v5 v1 σ) fun q2 =>
        if q2 = true then
          f_X12_fact_111 v1 v2 v3 v4 v5 σ
        else
          f_X12_fact_114 v1 v2 v3 v4 v5 σ
      else none
noncomputable def f_X12_fact (v1 : Int32) (v2 : Int32) (σ : fhM) : Option (Int32) :=
  if (f_X12_isFact v1 σ) = true then
    if (f_X12_isIn (Int32.toInt64 v2) (0 : Int64) (2 : Int64) σ) = true then
      Option.bind (f_X12_doesHold (σ.1 44 1) v1 σ) fun q1 =>
      if v2 = 0 then
        if q1 = true then
          some (1 : Int32)
        else
          some (0 : Int32)
      else
        fhlp (fun x => f_X12_fact_54 v1 v2 (fhb q1) x.1 x.2 σ) ((0 : Int32), (0 : Int32))
    else
      some (-1 : Int32)
  else
    some (-1 : Int32)
noncomputable def f_X12_left_37 (v1 : Int32) (v2 : Int32) (v3 : Int32) (σ : fhM) : Option ((Int32 × Int32) ⊕ (Int32)) :=
  some (.inl (v2, (v3 + (1 : Int32))))
noncomputable def f_X12_left_4 (v1 : Int32) (v2 : Int32) (v3 : Int32) (σ : fhM) : Option ((Int32 × Int32) ⊕ (Int32)) :=
  if (σ.1 0 52) ≤ v3 then
    some (.inr (-1 : Int32))
  else
    if v1 < 0 then
      some (.inr (-1 : Int32))
    else
      Option.bind (f_X12_isLeft v3 σ) fun q1 =>
      if q1 = true then
        if v2 = v1 then
          some (.inr v3)
        else
          f_X12_left_37 v1 (v2 + (1 : Int32)) v3 σ
      else
        f_X12_left_37 v1 v2 v3 σ
noncomputable def f_X12_left (v1 : Int32) (σ : fhM) : Option (Int32) :=
  fhlp (fun x => f_X12_left_4 v1 x.1 x.2 σ) ((0 : Int32), (0 : Int32))
noncomputable def f_X12_wears (v1 : Int32) (v2 : Int32) (σ : fhM) : Option (Int32) :=
  if (σ.1 0 47) = 0 then
    some (-1 : Int32)
  else
    if (f_X12_isIn (Int32.toInt64 v1) (0 : Int64) (Int32.toInt64 ((σ.1 0 52) - (1 : Int32))) σ) = true then
      if (f_X12_isGuest (Int32.toInt64 v2) σ) = true then
        Option.bind (f_X12_markOf v1 v2 σ) fun q1 =>
        some q1
      else
        some (-1 : Int32)
    else
      some (-1 : Int32)
noncomputable def f_X12_kept (v1 : Int32) (v2 : Int32) (σ : fhM) : Option (Int32) :=
  if (f_X12_isIn (Int32.toInt64 v1) (0 : Int64) (Int32.toInt64 ((σ.1 44 1026) - (1 : Int32))) σ) = true then
    if (f_X12_isIn (Int32.toInt64 v2) (0 : Int64) (3 : Int64) σ) = true then
      if (fhin (((1027 : Int32) + ((4 : Int32) * v1)) + v2) 1187 && true) = true then
      some (σ.1 44 (fhix (((1027 : Int32) + ((4 : Int32) * v1)) + v2)))
      else none
    else
      some (-1 : Int32)
  else
    some (-1 : Int32)
noncomputable def f_X12_knows_145 (v1 : Int32) (v2 : Int32) (v3 : Int32) (v4 : Int32) (v5 : Int32) (σ : fhM) : Option ((Int32 × Int32 × Int32) ⊕ (Int32 × fhM)) :=
  some (.inl (v3, v4, (v5 + (1 : Int32))))
noncomputable def f_X12_knows_143 (v1 : Int32) (v2 : Int32) (v3 : Int32) (v5 : Int32) (s0 : Int32) (σ : fhM) : Option ((Int32 × Int32 × Int32) ⊕ (Int32 × fhM)) :=
  f_X12_knows_145 v1 v2 v3 s0 v5 σ
noncomputable def f_X12_knows_142 (v1 : Int32) (v2 : Int32) (v3 : Int32) (v5 : Int32) (σ : fhM) : Option ((Int32 × Int32 × Int32) ⊕ (Int32 × fhM)) :=
  f_X12_knows_143 v1 v2 v3 v5 (0 : Int32) σ
noncomputable def f_X12_knows_127 (v1 : Int32) (v2 : Int32) (v4 : Int32) (v5 : Int32) (v6 : Int32) (s0 : Int32) (σ : fhM) : Option ((Int32 × Int32 × Int32) ⊕ (Int32 × fhM)) :=
  if v4 = 0 then
    f_X12_knows_142 v1 v2 s0 v5 σ
  else
    if v6 = 0 then
      f_X12_knows_142 v1 v2 s0 v5 σ
    else
      f_X12_knows_143 v1 v2 s0 v5 (1 : Int32) σ
noncomputable def f_X12_knows_122 (v1 : Int32) (v2 : Int32) (v4 : Int32) (v5 : Int32) (v6 : Int32) (σ : fhM) : Option ((Int32 × Int32 × Int32) ⊕ (Int32 × fhM)) :=
  f_X12_knows_127 v1 v2 v4 v5 v6 (1 : Int32) σ
noncomputable def f_X12_knows_111 (v1 : Int32) (v2 : Int32) (v3 : Int32) (v4 : Int32) (v5 : Int32) (s0 : Int32) (σ : fhM) : Option ((Int32 × Int32 × Int32) ⊕ (Int32 × fhM)) :=
  if v3 = 0 then
    if s0 = 0 then
      f_X12_knows_127 v1 v2 v4 v5 s0 (0 : Int32) σ
    else
      f_X12_knows_122 v1 v2 v4 v5 s0 σ
  else
    f_X12_knows_122 v1 v2 v4 v5 s0 σ
noncomputable def f_X12_knows_37 (v1 : Int32) (v2 : Int32) (v3 : Int32) (v4 : Int32) (v5 : Int32) (σ : fhM) : Option ((Int32 × Int32 × Int32) ⊕ (Int32 × fhM)) :=
  if (σ.1 0 52) ≤ v5 then
    if v4 = 0 then
      if v3 = 0 then
        some (.inr ((2 : Int32), σ))
      else
        some (.inr ((0 : Int32), σ))
    else
      some (.inr ((1 : Int32), σ))
  else
    Option.bind (f_X12_isLeft v5 σ) fun q2 =>
    if q2 = true then
      if (fhin (((1024 : Int32) * v1) + v5) 5120 && (fhin (((1024 : Int32) * v1) + (σ.1 44 1)) 5120 && true)) = true then
      if (σ.1 39 (fhix (((1024 : Int32) * v1) + v5))) = (σ.1 39 (fhix (((1024 : Int32) * v1) + (σ.1 44 1)))) then
        if (fhin v5 1024 && true) = true then
        f_X12_knows_111 v1 v2 v3 v4 v5 (if (((σ.1 46 (fhix v5)) >>> (v2 &&& 31)) &&& (1 : Int32)) = (1 : Int32) then (1 : Int32) else (0 : Int32)) σ
        else none
      else
        f_X12_knows_145 v1 v2 v3 v4 v5 σ
      else none
    else
      f_X12_knows_145 v1 v2 v3 v4 v5 σ
noncomputable def f_X12_knows (v1 : Int32) (v2 : Int32) (σ : fhM) : Option (Int32 × fhM) :=
  if (f_X12_isGuest (Int32.toInt64 v1) σ) = true then
    if (f_X12_isGuest (Int32.toInt64 v2) σ) = true then
      if v1 = v2 then
        some ((-1 : Int32), σ)
      else
        Option.bind (f_X12_laysKnowing σ) fun q1 =>
        fhlp (fun x => f_X12_knows_37 v1 v2 x.1 x.2.1 x.2.2 q1) ((0 : Int32), (1 : Int32), (0 : Int32))
    else
      some ((-1 : Int32), σ)
  else
    some ((-1 : Int32), σ)
noncomputable def f_X12_goesDeeper_158 (v1 : Int32) (v2 : Int32) (σ : fhM) : Option ((Int32 × fhM) ⊕ ((Int32 × fhM) ⊕ (fhM))) :=
  some (.inl ((v2 + (1 : Int32)), σ))
noncomputable def f_X12_goesDeeper_122 (v1 : Int32) (v2 : Int32) (σ : fhM) : Option ((Int32 × fhM) ⊕ ((Int32 × fhM) ⊕ (fhM))) :=
  if (σ.1 0 52) ≤ v2 then
    some (.inr (.inl ((v1 + (1 : Int32)), σ)))
  else
    if (fhin (((1024 : Int32) * v1) + v2) 5120 && (fhin (σ.1 39 (fhix (((1024 : Int32) * v1) + v2))) 1024 && true)) = true then
    if (σ.1 42 (fhix (σ.1 39 (fhix (((1024 : Int32) * v1) + v2))))) = (1 : Int32) then
      if (fhin v2 1024 && true) = true then
      f_X12_goesDeeper_158 v1 v2 (fhI σ 49 (fhix v2) ((0 : Int32) &&& 1))
      else none
    else
      f_X12_goesDeeper_158 v1 v2 σ
    else none
noncomputable def f_X12_goesDeeper_114 (v1 : Int32) (v2 : Int32) (σ : fhM) : Option ((Int32 × fhM) ⊕ ((Int32 × fhM) ⊕ (fhM))) :=
  some (.inl ((v2 + (1 : Int32)), σ))
noncomputable def f_X12_goesDeeper_71 (v1 : Int32) (v2 : Int32) (σ : fhM) : Option ((Int32 × fhM) ⊕ ((Int32 × fhM) ⊕ (fhM))) :=
  if (σ.1 0 52) ≤ v2 then
    Option.map Sum.inr (fhlp (fun x => f_X12_goesDeeper_122 v1 x.1 x.2) ((0 : Int32), σ))
  else
    Option.bind (f_X12_isLeft v2 σ) fun q1 =>
    if q1 = true then
      if (fhin v2 1024 && true) = true then
      if (σ.1 46 (fhix v2)) = 0 then
        if (fhin (((1024 : Int32) * v1) + v2) 5120 && (fhin (σ.1 39 (fhix (((1024 : Int32) * v1) + v2))) 1024 && true)) = true then
        f_X12_goesDeeper_114 v1 v2 (fhI σ 42 (fhix (σ.1 39 (fhix (((1024 : Int32) * v1) + v2)))) (1 : Int32))
        else none
      else
        f_X12_goesDeeper_114 v1 v2 σ
      else none
    else
      f_X12_goesDeeper_114 v1 v2 σ
noncomputable def f_X12_goesDeeper_48 (v1 : Int32) (v2 : Int32) (σ : fhM) : Option ((Int32 × fhM) ⊕ ((Int32 × fhM) ⊕ (fhM))) :=
  if (σ.1 0 52) ≤ v2 then
    Option.map Sum.inr (fhlp (fun x => f_X12_goesDeeper_71 v1 x.1 x.2) ((0 : Int32), σ))
  else
    if (fhin v2 1024 && true) = true then
    some (.inl ((v2 + (1 : Int32)), (fhI σ 42 (fhix v2) (0 : Int32))))
    else none
noncomputable def f_X12_goesDeeper_38 (v1 : Int32) (σ : fhM) : Option ((Int32 × fhM) ⊕ (fhM)) :=
  if (f_X12_guestMany σ) ≤ v1 then
    some (.inr σ)
  else
    fhlp (fun x => f_X12_goesDeeper_48 v1 x.1 x.2) ((0 : Int32), σ)
noncomputable def f_X12_goesDeeper_29 (v1 : Int32) (s0 : Int32) (s1 : Int32) (σ : fhM) : Option ((Int32 × fhM) ⊕ (fhM)) :=
  if (fhin s1 1024 && true) = true then
  some (.inl ((v1 + (1 : Int32)), (fhI σ 46 (fhix s1) s0)))
  else none
noncomputable def f_X12_goesDeeper_2 (v1 : Int32) (σ : fhM) : Option ((Int32 × fhM) ⊕ (fhM)) :=
  if (σ.1 0 52) ≤ v1 then
    Option.map Sum.inr (fhlp (fun x => f_X12_goesDeeper_38 x.1 x.2) ((0 : Int32), σ))
  else
    if (fhin v1 1024 && true) = true then
    f_X12_goesDeeper_29 v1 (if (σ.1 49 (fhix v1)) = 0 then (0 : Int32) else (1 : Int32)) v1 σ
    else none
noncomputable def f_X12_goesDeeper  (σ : fhM) : Option (fhM) :=
  fhlp (fun x => f_X12_goesDeeper_2 x.1 x.2) ((0 : Int32), σ)
noncomputable def f_X12_deep_67 (v1 : Int32) (σ : fhM) : Option ((Int32 × fhM) ⊕ (Int32 × fhM)) :=
  if (fhin (σ.1 44 1) 1024 && true) = true then
  if (σ.1 49 (fhix (σ.1 44 1))) = 0 then
    some (.inr (v1, σ))
  else
    if (9 : Int32) ≤ v1 then
      some (.inr (v1, σ))
    else
      Option.bind (f_X12_goesDeeper σ) fun q3 =>
      some (.inl ((v1 + (1 : Int32)), q3))
  else none
noncomputable def f_X12_deep_58 (v1 : Int32) (s0 : Int32) (s1 : Int32) (σ : fhM) : Option ((Int32 × fhM) ⊕ (Int32 × fhM)) :=
  if (fhin s1 1024 && true) = true then
  some (.inl ((v1 + (1 : Int32)), (fhI σ 49 (fhix s1) (s0 &&& 1))))
  else none
noncomputable def f_X12_deep_57 (v1 : Int32) (s0 : Int32) (σ : fhM) : Option ((Int32 × fhM) ⊕ (Int32 × fhM)) :=
  f_X12_deep_58 v1 (0 : Int32) s0 σ
noncomputable def f_X12_deep_15 (v1 : Int32) (σ : fhM) : Option ((Int32 × fhM) ⊕ (Int32 × fhM)) :=
  if (σ.1 0 52) ≤ v1 then
    Option.map Sum.inr (fhlp (fun x => f_X12_deep_67 x.1 x.2) ((0 : Int32), σ))
  else
    Option.bind (f_X12_isLeft v1 σ) fun q2 =>
    if q2 = true then
      if (fhin v1 1024 && true) = true then
      if (σ.1 46 (fhix v1)) = (((1 : Int32) <<< ((f_X12_guestMany σ) &&& 31)) - (1 : Int32)) then
        f_X12_deep_58 v1 (1 : Int32) v1 σ
      else
        f_X12_deep_57 v1 v1 σ
      else none
    else
      f_X12_deep_57 v1 v1 σ
noncomputable def f_X12_deep  (σ : fhM) : Option (Int32 × fhM) :=
  if (σ.1 0 47) = 0 then
    some ((-1 : Int32), σ)
  else
    Option.bind (f_X12_laysKnowing σ) fun q1 =>
    fhlp (fun x => f_X12_deep_15 x.1 x.2) ((0 : Int32), q1)
noncomputable def f_X12_later_29 (v1 : Int32) (v2 : Int32) (v3 : Int32) (σ : fhM) : Option ((Int32 × fhM) ⊕ (Int32 × fhM)) :=
  if v2 ≤ v3 then
    Option.bind (f_X12_doesKnow v1 σ) fun q2 =>
    Option.bind (f_X12_takesBack q2.2) fun q3 =>
    if q2.1 = true then
      some (.inr ((1 : Int32), q3))
    else
      some (.inr ((0 : Int32), q3))
  else
    Option.bind (f_X12_roundGoes (31 : Int32) σ) fun q4 =>
    some (.inl ((v3 + (1 : Int32)), q4.2))
noncomputable def f_X12_later (v1 : Int32) (v2 : Int32) (σ : fhM) : Option (Int32 × fhM) :=
  if (f_X12_isGuest (Int32.toInt64 v1) σ) = true then
    if (f_X12_isIn (Int32.toInt64 v2) (0 : Int64) (20 : Int64) σ) = true then
      Option.bind (f_X12_putsAside σ) fun q1 =>
      fhlp (fun x => f_X12_later_29 v1 v2 x.1 x.2) ((0 : Int32), q1)
    else
      some ((-1 : Int32), σ)
  else
    some ((-1 : Int32), σ)
noncomputable def f_X12_learns_52 (v2 : Int32) (v3 : Int32) (σ : fhM) : Option (Int32 × fhM) :=
  Option.bind (f_X12_takesBack σ) fun q5 =>
  if v3 = 0 then
    some ((-1 : Int32), q5)
  else
    some (v2, q5)
noncomputable def f_X12_learns_23 (v1 : Int32) (v2 : Int32) (v3 : Int32) (σ : fhM) : Option ((Int32 × Int32 × fhM) ⊕ (Int32 × fhM)) :=
  if v3 = 0 then
    if (20 : Int32) ≤ v2 then
      Option.map Sum.inr (f_X12_learns_52 v2 v3 σ)
    else
      Option.bind (f_X12_roundGoes (31 : Int32) σ) fun q3 =>
      Option.bind (f_X12_doesKnow v1 q3.2) fun q4 =>
      some (.inl ((v2 + (1 : Int32)), (fhb q4.1), q4.2))
  else
    Option.map Sum.inr (f_X12_learns_52 v2 v3 σ)
noncomputable def f_X12_learns (v1 : Int32) (σ : fhM) : Option (Int32 × fhM) :=
  if (f_X12_isGuest (Int32.toInt64 v1) σ) = true then
    Option.bind (f_X12_putsAside σ) fun q1 =>
    Option.bind (f_X12_doesKnow v1 q1) fun q2 =>
    fhlp (fun x => f_X12_learns_23 v1 x.1 x.2.1 x.2.2) ((0 : Int32), (fhb q2.1), q2.2)
  else
    some ((-1 : Int32), σ)
noncomputable def f_X12_rests_56 (v1 : Int32) (σ : fhM) : Option (Int32 × fhM) :=
  Option.bind (f_X12_takesBack σ) fun q5 =>
  some (v1, q5)
noncomputable def f_X12_rests_50 (v1 : Int32) (v2 : Int32) (σ : fhM) : Option ((Int32 × Int32 × fhM) ⊕ (Int32 × fhM)) :=
  some (.inl (v1, (v2 + (1 : Int32)), σ))
noncomputable def f_X12_rests_17 (v1 : Int32) (v2 : Int32) (σ : fhM) : Option ((Int32 × Int32 × fhM) ⊕ (Int32 × fhM)) :=
  if (20 : Int32) < v2 then
    Option.map Sum.inr (f_X12_rests_56 v1 σ)
  else
    if v1 = (-1 : Int32) then
      Option.bind (f_X12_leftMany σ) fun q2 =>
      Option.bind (f_X12_roundGoes (31 : Int32) σ) fun q3 =>
      Option.bind (f_X12_leftMany q3.2) fun q4 =>
      f_X12_rests_50 (if q4 = q2 then v2 else v1) v2 q3.2
    else
      Option.map Sum.inr (f_X12_rests_56 v1 σ)
noncomputable def f_X12_rests  (σ : fhM) : Option (Int32 × fhM) :=
  if (σ.1 0 47) = 0 then
    some ((-1 : Int32), σ)
  else
    Option.bind (f_X12_putsAside σ) fun q1 =>
    fhlp (fun x => f_X12_rests_17 x.1 x.2.1 x.2.2) ((-1 : Int32), (0 : Int32), q1)
noncomputable def f_X12_knowsBy_92 (v1 : Int32) (v2 : Int32) (v3 : Int32) (v4 : Int32) (σ : fhM) : Option ((Int32 × Int32) ⊕ (Bool)) :=
  some (.inl (v3, (v4 + (1 : Int32))))
noncomputable def f_X12_knowsBy_5 (v1 : Int32) (v2 : Int32) (v3 : Int32) (v4 : Int32) (σ : fhM) : Option ((Int32 × Int32) ⊕ (Bool)) :=
  if (σ.1 0 52) ≤ v4 then
    some (.inr (f_X12_isOne v3 σ))
  else
    Option.bind (f_X12_isLeft v4 σ) fun q1 =>
    if q1 = true then
      if (fhin (((1024 : Int32) * v2) + v4) 5120 && (fhin (((1024 : Int32) * v2) + (σ.1 44 1)) 5120 && true)) = true then
      if (σ.1 39 (fhix (((1024 : Int32) * v2) + v4))) = (σ.1 39 (fhix (((1024 : Int32) * v2) + (σ.1 44 1)))) then
        if (fhin v4 1024 && (fhin (σ.1 44 1) 1024 && true)) = true then
        if (((σ.1 38 (fhix v4)) ^^^ (σ.1 38 (fhix (σ.1 44 1)))) &&& v1) = 0 then
          Option.bind (f_X12_markOf v4 v2 σ) fun q2 =>
          f_X12_knowsBy_92 v1 v2 (v3 ||| ((1 : Int32) <<< (q2 &&& 31))) v4 σ
        else
          f_X12_knowsBy_92 v1 v2 v3 v4 σ
        else none
      else
        f_X12_knowsBy_92 v1 v2 v3 v4 σ
      else none
    else
      f_X12_knowsBy_92 v1 v2 v3 v4 σ
noncomputable def f_X12_knowsBy (v1 : Int32) (v2 : Int32) (σ : fhM) : Option (Bool) :=
  fhlp (fun x => f_X12_knowsBy_5 v1 v2 x.1 x.2 σ) ((0 : Int32), (0 : Int32))
noncomputable def f_X12_fewest_64 (v1 : Int32) (v2 : Int32) (v3 : Int32) (v4 : Int32) (σ : fhM) : Option ((Int32 × Int32) ⊕ (Int32)) :=
  some (.inl (v3, (v4 + (1 : Int32))))
noncomputable def f_X12_fewest_61 (v1 : Int32) (v2 : Int32) (v4 : Int32) (σ : fhM) : Option ((Int32 × Int32) ⊕ (Int32)) :=
  f_X12_fewest_64 v1 v2 v4 v4 σ
noncomputable def f_X12_fewest_36 (v1 : Int32) (v2 : Int32) (v3 : Int32) (v4 : Int32) (σ : fhM) : Option ((Int32 × Int32) ⊕ (Int32)) :=
  Option.bind (f_X12_knowsBy v4 v1 σ) fun q3 =>
  if q3 = true then
    if v2 = (-1 : Int32) then
      f_X12_fewest_61 v1 v2 v4 σ
    else
      Option.bind (f_X12_knowsBy v4 v2 σ) fun q4 =>
      if q4 = true then
        f_X12_fewest_64 v1 v2 v3 v4 σ
      else
        f_X12_fewest_61 v1 v2 v4 σ
  else
    f_X12_fewest_64 v1 v2 v3 v4 σ
noncomputable def f_X12_fewest_5 (v1 : Int32) (v2 : Int32) (v3 : Int32) (v4 : Int32) (σ : fhM) : Option ((Int32 × Int32) ⊕ (Int32)) :=
  if ((1 : Int32) <<< ((f_X12_factMany σ) &&& 31)) ≤ v4 then
    some (.inr v3)
  else
    if v3 = (-1 : Int32) then
      f_X12_fewest_36 v1 v2 v3 v4 σ
    else
      Option.bind (f_X12_bits v4 σ) fun q1 =>
      Option.bind (f_X12_bits v3 σ) fun q2 =>
      if q1 < q2 then
        f_X12_fewest_36 v1 v2 v3 v4 σ
      else
        f_X12_fewest_64 v1 v2 v3 v4 σ
noncomputable def f_X12_fewest (v1 : Int32) (v2 : Int32) (σ : fhM) : Option (Int32) :=
  fhlp (fun x => f_X12_fewest_5 v1 v2 x.1 x.2 σ) ((-1 : Int32), (0 : Int32))
noncomputable def f_X12_hints (v1 : Int32) (σ : fhM) : Option (Int32) :=
  if (f_X12_isGuest (Int32.toInt64 v1) σ) = true then
    Option.bind (f_X12_fewest v1 (-1 : Int32) σ) fun q1 =>
    some q1
  else
    some (-1 : Int32)
noncomputable def f_X12_secret (v1 : Int32) (v2 : Int32) (σ : fhM) : Option (Int32) :=
  if (f_X12_isGuest (Int32.toInt64 v1) σ) = true then
    if (f_X12_isGuest (Int32.toInt64 v2) σ) = true then
      if v1 = v2 then
        some (-1 : Int32)
      else
        Option.bind (f_X12_fewest v1 v2 σ) fun q1 =>
        some q1
    else
      some (-1 : Int32)
  else
    some (-1 : Int32)
noncomputable def f_X12_leftIfSays_51 (v1 : Int32) (v2 : Int32) (v3 : Int32) (σ : fhM) : Option ((Int32 × Int32) ⊕ (Int32)) :=
  some (.inl (v2, (v3 + (1 : Int32))))
noncomputable def f_X12_leftIfSays_4 (v1 : Int32) (v2 : Int32) (v3 : Int32) (σ : fhM) : Option ((Int32 × Int32) ⊕ (Int32)) :=
  if (σ.1 0 52) ≤ v3 then
    some (.inr v2)
  else
    Option.bind (f_X12_isLeft v3 σ) fun q1 =>
    if q1 = true then
      if (fhin v3 1024 && (fhin (σ.1 44 1) 1024 && true)) = true then
      f_X12_leftIfSays_51 v1 (if (((σ.1 46 (fhix v3)) >>> (v1 &&& 31)) &&& (1 : Int32)) = (((σ.1 46 (fhix (σ.1 44 1))) >>> (v1 &&& 31)) &&& (1 : Int32)) then (v2 + (1 : Int32)) else v2) v3 σ
      else none
    else
      f_X12_leftIfSays_51 v1 v2 v3 σ
noncomputable def f_X12_leftIfSays (v1 : Int32) (σ : fhM) : Option (Int32) :=
  fhlp (fun x => f_X12_leftIfSays_4 v1 x.1 x.2 σ) ((0 : Int32), (0 : Int32))
noncomputable def f_X12_speaker_60 (v1 : Int32) (v2 : Int32) (v3 : Int32) (v4 : Int32) (σ : fhM) : Option ((Int32 × Int32 × Int32) ⊕ (Int32 × fhM)) :=
  some (.inl (v2, v3, (v4 + (1 : Int32))))
noncomputable def f_X12_speaker_54 (v1 : Int32) (v4 : Int32) (v5 : Int32) (σ : fhM) : Option ((Int32 × Int32 × Int32) ⊕ (Int32 × fhM)) :=
  f_X12_speaker_60 v1 v4 v5 v4 σ
noncomputable def f_X12_speaker_23 (v1 : Int32) (v2 : Int32) (v3 : Int32) (v4 : Int32) (σ : fhM) : Option ((Int32 × Int32 × Int32) ⊕ (Int32 × fhM)) :=
  if (f_X12_guestMany σ) ≤ v4 then
    if v1 = 0 then
      some (.inr (v2, σ))
    else
      some (.inr (v3, σ))
  else
    Option.bind (f_X12_leftIfSays v4 σ) fun q2 =>
    if v2 = (-1 : Int32) then
      f_X12_speaker_54 v1 v4 q2 σ
    else
      if q2 < v3 then
        f_X12_speaker_54 v1 v4 q2 σ
      else
        f_X12_speaker_60 v1 v2 v3 v4 σ
noncomputable def f_X12_speaker (v1 : Int32) (σ : fhM) : Option (Int32 × fhM) :=
  if (f_X12_isIn (Int32.toInt64 v1) (0 : Int64) (1 : Int64) σ) = true then
    Option.bind (f_X12_laysKnowing σ) fun q1 =>
    fhlp (fun x => f_X12_speaker_23 v1 x.1 x.2.1 x.2.2 q1) ((-1 : Int32), (-1 : Int32), (0 : Int32))
  else
    some ((-1 : Int32), σ)
noncomputable def f_X12_knewAt (v1 : Int32) (v2 : Int32) (v3 : Int32) (σ : fhM) : Option (Bool) :=
  if (fhin (((1024 : Int32) * v1) + v2) 21504 && true) = true then
  if (((σ.1 40 (fhix (((1024 : Int32) * v1) + v2))) >>> (v3 &&& 31)) &&& (1 : Int32)) = (1 : Int32) then
    some true
  else
    some false
  else none
noncomputable def f_X12_slowest_101 (v1 : Int32) (v2 : Int32) (v3 : Int32) (v4 : Int32) (v5 : Int32) (σ : fhM) : Option ((Int32 × Int32 × Int32) ⊕ (Int32)) :=
  some (.inl (v3, v4, (v5 + (1 : Int32))))
noncomputable def f_X12_slowest_66 (v1 : Int32) (v2 : Int32) (v3 : Int32) (v4 : Int32) (v5 : Int32) (v6 : Int32) (σ : fhM) : Option ((Int32) ⊕ ((Int32 × Int32 × Int32) ⊕ (Int32))) :=
  Option.bind (f_X12_knewAt v6 v5 v1 σ) fun q2 =>
  if q2 = true then
    Option.map Sum.inr (f_X12_slowest_101 v1 v2 (if v4 < v6 then v5 else v3) (if v4 < v6 then v6 else v4) v5 σ)
  else
    some (.inl (v6 + (1 : Int32)))
noncomputable def f_X12_slowest_29 (v1 : Int32) (v2 : Int32) (v3 : Int32) (v4 : Int32) (v5 : Int32) (σ : fhM) : Option ((Int32 × Int32 × Int32) ⊕ (Int32)) :=
  if (σ.1 0 52) ≤ v5 then
    if v2 = 0 then
      some (.inr v3)
    else
      some (.inr v4)
  else
    if (fhin v5 1024 && true) = true then
    if (σ.1 37 (fhix v5)) = 0 then
      f_X12_slowest_101 v1 v2 v3 v4 v5 σ
    else
      Option.bind (f_X12_knewAt (20 : Int32) v5 v1 σ) fun q1 =>
      if q1 = true then
        fhlp (fun x => f_X12_slowest_66 v1 v2 v3 v4 v5 x σ) (0 : Int32)
      else
        f_X12_slowest_101 v1 v2 v3 v4 v5 σ
    else none
noncomputable def f_X12_slowest (v1 : Int32) (v2 : Int32) (σ : fhM) : Option (Int32) :=
  if (f_X12_isGuest (Int32.toInt64 v1) σ) = true then
    if (f_X12_isIn (Int32.toInt64 v2) (0 : Int64) (1 : Int64) σ) = true then
      fhlp (fun x => f_X12_slowest_29 v1 v2 x.1 x.2.1 x.2.2 σ) ((-1 : Int32), (-1 : Int32), (0 : Int32))
    else
      some (-1 : Int32)
  else
    some (-1 : Int32)
noncomputable def f_X12_odds_61 (v1 : Int32) (v2 : Int32) (v3 : Int32) (v4 : Int32) (σ : fhM) : Option ((Int32 × Int32) ⊕ (Int32)) :=
  some (.inl (v3, (v4 + (1 : Int32))))
noncomputable def f_X12_odds_28 (v1 : Int32) (v2 : Int32) (v3 : Int32) (v4 : Int32) (σ : fhM) : Option ((Int32 × Int32) ⊕ (Int32)) :=
  if (σ.1 0 52) ≤ v4 then
    some (.inr v3)
  else
    if (fhin v4 1024 && true) = true then
    if (σ.1 37 (fhix v4)) = 0 then
      f_X12_odds_61 v1 v2 v3 v4 σ
    else
      Option.bind (f_X12_knewAt v2 v4 v1 σ) fun q1 =>
      f_X12_odds_61 v1 v2 (if q1 = true then (v3 + (1 : Int32)) else v3) v4 σ
    else none
noncomputable def f_X12_odds (v1 : Int32) (v2 : Int32) (σ : fhM) : Option (Int32) :=
  if (f_X12_isGuest (Int32.toInt64 v1) σ) = true then
    if (f_X12_isIn (Int32.toInt64 v2) (0 : Int64) (20 : Int64) σ) = true then
      fhlp (fun x => f_X12_odds_28 v1 v2 x.1 x.2 σ) ((0 : Int32), (0 : Int32))
    else
      some (-1 : Int32)
  else
    some (-1 : Int32)
noncomputable def f_X12_hear_108 (v1 : Int32) (v3 : Int32) (σ : fhM) : Option ((Int32 × fhM) ⊕ (Int32 × fhM)) :=
  if v1 ≤ v3 then
    some (.inr ((v1 / (3 : Int32)), (fhI σ 0 68 (v1 / (3 : Int32)))))
  else
    if (fhin v3 1600 && (fhin v3 48 && true)) = true then
    some (.inl ((v3 + (1 : Int32)), (fhI σ 50 (fhix v3) (σ.1 1 (fhix v3)))))
    else none
noncomputable def f_X12_hear_96 (v1 : Int32) (v2 : Int32) (σ : fhM) : Option (Int32 × fhM) :=
  if v2 = 0 then
    Option.bind (f_X12_refuses (1 : Int32) σ) fun q1 =>
    some (q1.1, q1.2)
  else
    fhlp (fun x => f_X12_hear_108 v1 x.1 x.2) ((0 : Int32), σ)
noncomputable def f_X12_hear_89 (v1 : Int32) (v3 : Int32) (s0 : Int32) (σ : fhM) : Option ((Int32 × Int32) ⊕ (Int32 × fhM)) :=
  some (.inl (s0, (v3 + (3 : Int32))))
noncomputable def f_X12_hear_88 (v1 : Int32) (v3 : Int32) (σ : fhM) : Option ((Int32 × Int32) ⊕ (Int32 × fhM)) :=
  f_X12_hear_89 v1 v3 (0 : Int32) σ
noncomputable def f_X12_hear_36 (v1 : Int32) (v2 : Int32) (v3 : Int32) (σ : fhM) : Option ((Int32 × Int32) ⊕ (Int32 × fhM)) :=
  if v1 ≤ v3 then
    Option.map Sum.inr (f_X12_hear_96 v1 v2 σ)
  else
    if v2 = 0 then
      Option.map Sum.inr (f_X12_hear_96 v1 v2 σ)
    else
      if (fhin v3 1600 && true) = true then
      if (15 : Int32) < (σ.1 1 (fhix v3)) then
        f_X12_hear_88 v1 v3 σ
      else
        if (fhin (v3 + (1 : Int32)) 1600 && true) = true then
        if (f_X12_isGuest (Int32.toInt64 (σ.1 1 (fhix (v3 + (1 : Int32))))) σ) = true then
          if (fhin (v3 + (2 : Int32)) 1600 && true) = true then
          if (1 : Int32) < (σ.1 1 (fhix (v3 + (2 : Int32)))) then
            f_X12_hear_88 v1 v3 σ
          else
            f_X12_hear_89 v1 v3 (1 : Int32) σ
          else none
        else
          f_X12_hear_88 v1 v3 σ
        else none
      else none
noncomputable def f_X12_hear_33 (v1 : Int32) (s0 : Int32) (σ : fhM) : Option (Int32 × fhM) :=
  fhlp (fun x => f_X12_hear_36 v1 x.1 x.2 σ) (s0, (0 : Int32))
noncomputable def f_X12_hear_32 (v1 : Int32) (σ : fhM) : Option (Int32 × fhM) :=
  f_X12_hear_33 v1 (0 : Int32) σ
noncomputable def f_X12_hear  (σ : fhM) : Option (Int32 × fhM) :=
  if (σ.1 0 1) ≤ 0 then
    f_X12_hear_32 (σ.1 0 1) (fhI σ 0 1 (0 : Int32))
  else
    if (fhrem (σ.1 0 1) (3 : Int32)) = 0 then
      if (16 : Int32) < ((σ.1 0 1) / (3 : Int32)) then
        f_X12_hear_32 (σ.1 0 1) (fhI σ 0 1 (0 : Int32))
      else
        f_X12_hear_33 (σ.1 0 1) (1 : Int32) (fhI σ 0 1 (0 : Int32))
    else
      f_X12_hear_32 (σ.1 0 1) (fhI σ 0 1 (0 : Int32))
noncomputable def f_X12_doesFit_63 (v1 : Int32) (v2 : Int32) (s0 : Int32) (s1 : Int32) (σ : fhM) : Option ((Int32) ⊕ (Bool)) :=
  if s1 = s0 then
    some (.inl (v2 + (1 : Int32)))
  else
    some (.inr false)
noncomputable def f_X12_doesFit_13 (v1 : Int32) (v2 : Int32) (σ : fhM) : Option ((Int32) ⊕ (Bool)) :=
  if (σ.1 0 68) ≤ v2 then
    some (.inr true)
  else
    if (fhin ((3 : Int32) * v2) 48 && (fhin (((3 : Int32) * v2) + (1 : Int32)) 48 && true)) = true then
    Option.bind (f_X12_knewAt (σ.1 50 (fhix ((3 : Int32) * v2))) v1 (σ.1 50 (fhix (((3 : Int32) * v2) + (1 : Int32)))) σ) fun q1 =>
    if (fhin (((3 : Int32) * v2) + (2 : Int32)) 48 && true) = true then
    f_X12_doesFit_63 v1 v2 (if (σ.1 50 (fhix (((3 : Int32) * v2) + (2 : Int32)))) = (1 : Int32) then (1 : Int32) else (0 : Int32)) (fhb q1) σ
    else none
    else none
noncomputable def f_X12_doesFit (v1 : Int32) (σ : fhM) : Option (Bool) :=
  if (fhin v1 1024 && true) = true then
  if (σ.1 37 (fhix v1)) = 0 then
    some false
  else
    fhlp (fun x => f_X12_doesFit_13 v1 x σ) (0 : Int32)
  else none
noncomputable def f_X12_fits_47 (v1 : Int32) (v2 : Int32) (v3 : Int32) (σ : fhM) : Option ((Int32 × Int32) ⊕ (Int32)) :=
  some (.inl (v2, (v3 + (1 : Int32))))
noncomputable def f_X12_fits_18 (v1 : Int32) (v2 : Int32) (v3 : Int32) (σ : fhM) : Option ((Int32 × Int32) ⊕ (Int32)) :=
  if (σ.1 0 52) ≤ v3 then
    if v1 = (-1 : Int32) then
      some (.inr v2)
    else
      some (.inr (-1 : Int32))
  else
    Option.bind (f_X12_doesFit v3 σ) fun q1 =>
    if q1 = true then
      if v2 = v1 then
        some (.inr v3)
      else
        f_X12_fits_47 v1 (v2 + (1 : Int32)) v3 σ
    else
      f_X12_fits_47 v1 v2 v3 σ
noncomputable def f_X12_fits (v1 : Int32) (σ : fhM) : Option (Int32) :=
  if (σ.1 0 47) = 0 then
    some (-1 : Int32)
  else
    if (-1 : Int32) ≤ v1 then
      fhlp (fun x => f_X12_fits_18 v1 x.1 x.2 σ) ((0 : Int32), (0 : Int32))
    else
      some (-1 : Int32)
noncomputable def f_X12_could_42 (v1 : Int32) (v2 : Int32) (v3 : Int32) (σ : fhM) : Option ((Int32 × Int32) ⊕ (Int32)) :=
  some (.inl (v2, (v3 + (1 : Int32))))
noncomputable def f_X12_could_15 (v1 : Int32) (v2 : Int32) (v3 : Int32) (σ : fhM) : Option ((Int32 × Int32) ⊕ (Int32)) :=
  if (σ.1 0 52) ≤ v3 then
    some (.inr v2)
  else
    Option.bind (f_X12_doesFit v3 σ) fun q1 =>
    if q1 = true then
      Option.bind (f_X12_markOf v3 v1 σ) fun q2 =>
      f_X12_could_42 v1 (v2 ||| ((1 : Int32) <<< (q2 &&& 31))) v3 σ
    else
      f_X12_could_42 v1 v2 v3 σ
noncomputable def f_X12_could (v1 : Int32) (σ : fhM) : Option (Int32) :=
  if (f_X12_isGuest (Int32.toInt64 v1) σ) = true then
    fhlp (fun x => f_X12_could_15 v1 x.1 x.2 σ) ((0 : Int32), (0 : Int32))
  else
    some (-1 : Int32)
noncomputable def f_X12_mostAlike_38 (v1 : Int32) (v2 : Int32) (v3 : Int32) (v4 : Int32) (v5 : Int32) (σ : fhM) : Option ((Int32 × Int32) ⊕ (Int32)) :=
  some (.inl (v4, (v5 + (1 : Int32))))
noncomputable def f_X12_mostAlike_6 (v1 : Int32) (v2 : Int32) (v3 : Int32) (v4 : Int32) (v5 : Int32) (σ : fhM) : Option ((Int32 × Int32) ⊕ (Int32)) :=
  if (σ.1 0 52) ≤ v5 then
    if (v3 - v4) ≤ v4 then
      some (.inr v4)
    else
      some (.inr (v3 - v4))
  else
    Option.bind (f_X12_doesFit v5 σ) fun q1 =>
    if q1 = true then
      Option.bind (f_X12_knewAt v1 v5 v2 σ) fun q2 =>
      f_X12_mostAlike_38 v1 v2 v3 (if q2 = true then (v4 + (1 : Int32)) else v4) v5 σ
    else
      f_X12_mostAlike_38 v1 v2 v3 v4 v5 σ
noncomputable def f_X12_mostAlike (v1 : Int32) (v2 : Int32) (v3 : Int32) (σ : fhM) : Option (Int32) :=
  fhlp (fun x => f_X12_mostAlike_6 v1 v2 v3 x.1 x.2 σ) ((0 : Int32), (0 : Int32))
noncomputable def f_X12_tells_110 (v1 : Int32) (v3 : Int32) (v4 : Int32) (v5 : Int32) (σ : fhM) : Option (Int32) :=
  if v3 = (-1 : Int32) then
    some (-1 : Int32)
  else
    if v1 = 0 then
      some v3
    else
      if v1 = (1 : Int32) then
        some v4
      else
        some v5
noncomputable def f_X12_tells_98 (v1 : Int32) (v2 : Int32) (v3 : Int32) (v4 : Int32) (v5 : Int32) (v6 : Int32) (v7 : Int32) (σ : fhM) : Option ((Int32 × Int32 × Int32 × Int32) ⊕ ((Int32 × Int32 × Int32 × Int32) ⊕ (Int32))) :=
  some (.inl (v3, v4, v5, (v7 + (1 : Int32))))
noncomputable def f_X12_tells_87 (v1 : Int32) (v2 : Int32) (v6 : Int32) (v7 : Int32) (v8 : Int32) (σ : fhM) : Option ((Int32 × Int32 × Int32 × Int32) ⊕ ((Int32 × Int32 × Int32 × Int32) ⊕ (Int32))) :=
  f_X12_tells_98 v1 v2 v6 v7 v8 v6 v7 σ
noncomputable def f_X12_tells_52 (v1 : Int32) (v2 : Int32) (v3 : Int32) (v4 : Int32) (v5 : Int32) (v6 : Int32) (v7 : Int32) (σ : fhM) : Option ((Int32 × Int32 × Int32 × Int32) ⊕ ((Int32 × Int32 × Int32 × Int32) ⊕ (Int32))) :=
  if (f_X12_guestMany σ) ≤ v7 then
    some (.inr (.inl (v3, v4, v5, (v6 + (1 : Int32)))))
  else
    Option.bind (f_X12_mostAlike v6 v7 v2 σ) fun q2 =>
    if v3 = (-1 : Int32) then
      f_X12_tells_87 v1 v2 v6 v7 q2 σ
    else
      if q2 < v5 then
        f_X12_tells_87 v1 v2 v6 v7 q2 σ
      else
        f_X12_tells_98 v1 v2 v3 v4 v5 v6 v7 σ
noncomputable def f_X12_tells_38 (v1 : Int32) (v2 : Int32) (v3 : Int32) (v4 : Int32) (v5 : Int32) (v6 : Int32) (σ : fhM) : Option ((Int32 × Int32 × Int32 × Int32) ⊕ (Int32)) :=
  if (15 : Int32) < v6 then
    Option.map Sum.inr (f_X12_tells_110 v1 v3 v4 v5 σ)
  else
    if v2 ≤ 0 then
      Option.map Sum.inr (f_X12_tells_110 v1 v3 v4 v5 σ)
    else
      fhlp (fun x => f_X12_tells_52 v1 v2 x.1 x.2.1 x.2.2.1 v6 x.2.2.2 σ) (v3, v4, v5, (0 : Int32))
noncomputable def f_X12_tells (v1 : Int32) (σ : fhM) : Option (Int32) :=
  if (σ.1 0 47) = 0 then
    some (-1 : Int32)
  else
    if (f_X12_isIn (Int32.toInt64 v1) (0 : Int64) (2 : Int64) σ) = true then
      Option.bind (f_X12_fits (-1 : Int32) σ) fun q1 =>
      fhlp (fun x => f_X12_tells_38 v1 q1 x.1 x.2.1 x.2.2.1 x.2.2.2 σ) ((-1 : Int32), (-1 : Int32), (0 : Int32), (0 : Int32))
    else
      some (-1 : Int32)
noncomputable def f_X12_keeps_15 (v1 : Int32) (σ : fhM) : Option ((Int32 × fhM) ⊕ (fhM)) :=
  if (1187 : Int32) ≤ v1 then
    if (20 : Int32) ≤ (σ.1 0 71) then
      some (.inr σ)
    else
      some (.inr (fhI σ 0 71 ((σ.1 0 71) + (1 : Int32))))
  else
    if (fhin v1 1187 && (fhin (((1187 : Int32) * (σ.1 0 72)) + v1) 23740 && true)) = true then
    some (.inl ((v1 + (1 : Int32)), (fhI σ 51 (fhix (((1187 : Int32) * (σ.1 0 72)) + v1)) (σ.1 44 (fhix v1)))))
    else none
noncomputable def f_X12_keeps  (σ : fhM) : Option (fhM) :=
  fhlp (fun x => f_X12_keeps_15 x.1 x.2) ((0 : Int32), (fhI σ 0 72 (fhrem ((σ.1 0 72) + (1 : Int32)) (20 : Int32))))
noncomputable def f_X12_undo_21 (v1 : Int32) (σ : fhM) : Option ((Int32 × fhM) ⊕ (Bool × fhM)) :=
  if (1187 : Int32) ≤ v1 then
    some (.inr (true, (fhI (fhI σ 0 72 (fhrem (((σ.1 0 72) + (20 : Int32)) - (1 : Int32)) (20 : Int32))) 0 71 ((σ.1 0 71) - (1 : Int32)))))
  else
    if (fhin (((1187 : Int32) * (σ.1 0 72)) + v1) 23740 && (fhin v1 1187 && true)) = true then
    some (.inl ((v1 + (1 : Int32)), (fhI σ 44 (fhix v1) (σ.1 51 (fhix (((1187 : Int32) * (σ.1 0 72)) + v1))))))
    else none
noncomputable def f_X12_undo  (σ : fhM) : Option (Bool × fhM) :=
  if (σ.1 0 71) = 0 then
    some (false, (fhI σ 2 4 ((σ.1 2 4) + (1 : Int32))))
  else
    fhlp (fun x => f_X12_undo_21 x.1 x.2) ((0 : Int32), σ)
noncomputable def f_X12_isRefused (v1 : Int32) (σ : fhM) : Option (Bool × fhM) :=
  if (fhin v1 6 && (fhin v1 6 && true)) = true then
  some (false, (fhI σ 2 (fhix v1) ((σ.1 2 (fhix v1)) + (1 : Int32))))
  else none
noncomputable def f_X12_round_19  (σ : fhM) : Option (Int32 × fhM) :=
  Option.bind (f_X12_refuses (3 : Int32) σ) fun q3 =>
  some (q3.1, q3.2)
noncomputable def f_X12_round  (σ : fhM) : Option (Int32 × fhM) :=
  if (σ.1 0 47) = 0 then
    f_X12_round_19 σ
  else
    if (σ.1 44 0) = (999 : Int32) then
      f_X12_round_19 σ
    else
      Option.bind (f_X12_keeps σ) fun q1 =>
      Option.bind (f_X12_roundGoes (31 : Int32) q1) fun q2 =>
      some (q2.1, q2.2)
noncomputable def f_X12_says (v1 : Int32) (σ : fhM) : Option (Int32 × fhM) :=
  if (f_X12_isGuest (Int32.toInt64 v1) σ) = true then
    Option.bind (f_X12_keeps σ) fun q1 =>
    Option.bind (f_X12_leavesAs ((1 : Int32) <<< (v1 &&& 31)) q1) fun q2 =>
    Option.bind (f_X12_isKept (1 : Int32) v1 (q2.1 >>> (v1 &&& 31)) q2.2) fun q3 =>
    some ((q2.1 >>> (v1 &&& 31)), q3)
  else
    Option.bind (f_X12_refuses (2 : Int32) σ) fun q4 =>
    some (q4.1, q4.2)
noncomputable def f_X12_tell_77 (v2 : Int32) (s0 : Int32) (s1 : Int32) (s2 : Int32) (σ : fhM) : Option (Int32 × fhM) :=
  Option.bind (f_X12_isKept s2 s1 s0 σ) fun q5 =>
  if v2 = 0 then
    some ((0 : Int32), q5)
  else
    some ((1 : Int32), q5)
noncomputable def f_X12_tell_59 (v1 : Int32) (v2 : Int32) (v3 : Int32) (σ : fhM) : Option ((Int32 × fhM) ⊕ (Int32 × fhM)) :=
  some (.inl ((v3 + (1 : Int32)), σ))
noncomputable def f_X12_tell_32 (v1 : Int32) (v2 : Int32) (v3 : Int32) (σ : fhM) : Option ((Int32 × fhM) ⊕ (Int32 × fhM)) :=
  if (σ.1 0 52) ≤ v3 then
    Option.map Sum.inr (f_X12_tell_77 v2 (if v2 = 0 then (0 : Int32) else (1 : Int32)) v1 (2 : Int32) σ)
  else
    Option.bind (f_X12_doesHold v3 v1 σ) fun q4 =>
    if (fhb q4) = v2 then
      f_X12_tell_59 v1 v2 v3 σ
    else
      if (fhin ((2 : Int32) + v3) 1187 && true) = true then
      f_X12_tell_59 v1 v2 v3 (fhI σ 44 (fhix ((2 : Int32) + v3)) (0 : Int32))
      else none
noncomputable def f_X12_tell (v1 : Int32) (σ : fhM) : Option (Int32 × fhM) :=
  if (f_X12_isFact v1 σ) = true then
    Option.bind (f_X12_keeps σ) fun q1 =>
    Option.bind (f_X12_doesHold (q1.1 44 1) v1 q1) fun q2 =>
    fhlp (fun x => f_X12_tell_32 v1 (fhb q2) x.1 x.2) ((0 : Int32), q1)
  else
    Option.bind (f_X12_refuses (2 : Int32) σ) fun q3 =>
    some (q3.1, q3.2)
noncomputable def f_X12_rowWith_5 (v1 : Int32) (v2 : Int32) (v3 : Int32) (v4 : Int32) (σ : fhM) : Option ((Int32 × Int32) ⊕ (Int32)) :=
  if v1 ≤ v4 then
    Option.bind (f_X12_markOf (σ.1 44 1) v1 σ) fun q1 =>
    some (.inr ((σ.1 44 1) + (v3 * (v2 - q1))))
  else
    some (.inl ((v3 * (f_X12_markMany σ)), (v4 + (1 : Int32))))
noncomputable def f_X12_rowWith (v1 : Int32) (v2 : Int32) (σ : fhM) : Option (Int32) :=
  fhlp (fun x => f_X12_rowWith_5 v1 v2 x.1 x.2 σ) ((1 : Int32), (0 : Int32))
noncomputable def f_X12_isWorn (v1 : Int32) (σ : fhM) : Option (fhM) :=
  Option.bind (f_X12_begins (fhI σ 44 1 v1)) fun q1 =>
  some q1
noncomputable def f_X12_wear_54  (σ : fhM) : Option (Bool × fhM) :=
  Option.bind (f_X12_isRefused (2 : Int32) σ) fun q6 =>
  some (q6.1, q6.2)
noncomputable def f_X12_wear (v1 : Int32) (v2 : Int32) (σ : fhM) : Option (Bool × fhM) :=
  if (f_X12_isGuest (Int32.toInt64 v1) σ) = true then
    if (f_X12_isIn (Int32.toInt64 v2) (0 : Int64) (Int32.toInt64 ((f_X12_markMany σ) - (1 : Int32))) σ) = true then
      Option.bind (f_X12_markOf (σ.1 44 1) v1 σ) fun q1 =>
      if q1 = v2 then
        f_X12_wear_54 σ
      else
        Option.bind (f_X12_rowWith v1 v2 σ) fun q2 =>
        if (fhin q2 1024 && true) = true then
        if (σ.1 37 (fhix q2)) = 0 then
          f_X12_wear_54 σ
        else
          Option.bind (f_X12_keeps σ) fun q3 =>
          Option.bind (f_X12_rowWith v1 v2 q3) fun q4 =>
          Option.bind (f_X12_isWorn q4 q3) fun q5 =>
          some (true, q5)
        else none
    else
      f_X12_wear_54 σ
  else
    f_X12_wear_54 σ
noncomputable def f_X12_seed (v1 : Int32) (σ : fhM) : Option (Bool × fhM) :=
  if 0 ≤ v1 then
    some (true, (fhJ σ 0 73 (Int32.toInt64 v1)))
  else
    Option.bind (f_X12_isRefused (5 : Int32) σ) fun q1 =>
    some (q1.1, q1.2)
noncomputable def f_X12_drawOf (v1 : Int32) (σ : fhM) : Option (Int32 × fhM) :=
  if (fhnzl (Int32.toInt64 v1) && true) = true then
  some ((Int64.toInt32 (fhreml ((fhreml (((1103515245 : Int64) * (σ.2.1 0 73)) + (12345 : Int64)) (2147483648 : Int64)) / (64 : Int64)) (Int32.toInt64 v1))), (fhJ σ 0 73 (fhreml (((1103515245 : Int64) * (σ.2.1 0 73)) + (12345 : Int64)) (2147483648 : Int64))))
  else none
noncomputable def f_X12_chance_33  (σ : fhM) : Option (Int32 × fhM) :=
  Option.bind (f_X12_refuses (3 : Int32) σ) fun q2 =>
  some (q2.1, q2.2)
noncomputable def f_X12_chance_99 (v1 : Int32) (v2 : Int32) (v3 : Int32) (v4 : Int32) (σ : fhM) : Option ((Int32 × Int32 × fhM) ⊕ (Int32 × fhM)) :=
  Option.bind (f_X12_roundGoes v4 σ) fun q5 =>
  some (.inl (v2, (v3 + (1 : Int32)), q5.2))
noncomputable def f_X12_chance_47 (v1 : Int32) (v2 : Int32) (v3 : Int32) (σ : fhM) : Option ((Int32 × Int32 × fhM) ⊕ (Int32 × fhM)) :=
  if v1 ≤ v3 then
    some (.inr (v2, σ))
  else
    Option.bind (f_X12_drawOf (100 : Int32) σ) fun q3 =>
    if (q3.2.1 29 9) ≤ q3.1 then
      f_X12_chance_99 v1 v2 v3 (31 : Int32) q3.2
    else
      if (f_X12_guestMany q3.2) ≤ 0 then
        f_X12_chance_99 v1 v2 v3 (31 : Int32) q3.2
      else
        Option.bind (f_X12_drawOf (f_X12_guestMany q3.2) q3.2) fun q4 =>
        fhlet ((31 : Int32) &&& (((1 : Int32) <<< (q4.1 &&& 31)) ^^^ (-1 : Int32))) fun w4_1 =>
        f_X12_chance_99 v1 (v2 + (1 : Int32)) v3 w4_1 q4.2
noncomputable def f_X12_chance (v1 : Int32) (σ : fhM) : Option (Int32 × fhM) :=
  if (σ.1 0 47) = 0 then
    f_X12_chance_33 σ
  else
    if (f_X12_isIn (Int32.toInt64 v1) (1 : Int64) (20 : Int64) σ) = true then
      if ((σ.1 44 0) + v1) ≤ (999 : Int32) then
        Option.bind (f_X12_keeps σ) fun q1 =>
        fhlp (fun x => f_X12_chance_47 v1 x.1 x.2.1 x.2.2) ((0 : Int32), (0 : Int32), q1)
      else
        f_X12_chance_33 σ
    else
      f_X12_chance_33 σ
noncomputable def f_X12_deal_53 (v1 : Int32) (v2 : Int32) (σ : fhM) : Option ((Int32 × Int32) ⊕ (Int32 × fhM)) :=
  some (.inl (v1, (v2 + (1 : Int32))))
noncomputable def f_X12_deal_41 (v1 : Int32) (v2 : Int32) (σ : fhM) : Option ((Int32 × Int32) ⊕ (Int32 × fhM)) :=
  if (fhin v2 1024 && true) = true then
  f_X12_deal_53 (if (σ.1 37 (fhix v2)) = 0 then v1 else (v1 + (-1 : Int32))) v2 σ
  else none
noncomputable def f_X12_deal_28 (v1 : Int32) (v2 : Int32) (σ : fhM) : Option ((Int32 × Int32) ⊕ (Int32 × fhM)) :=
  if 0 < v1 then
    f_X12_deal_41 v1 v2 σ
  else
    if (fhin v2 1024 && true) = true then
    if (σ.1 37 (fhix v2)) = 0 then
      f_X12_deal_41 v1 v2 σ
    else
      Option.bind (f_X12_isWorn v2 σ) fun q4 =>
      some (.inr (v2, q4))
    else none
noncomputable def f_X12_deal  (σ : fhM) : Option (Int32 × fhM) :=
  if (σ.1 0 47) = 0 then
    Option.bind (f_X12_refuses (3 : Int32) σ) fun q3 =>
    some (q3.1, q3.2)
  else
    Option.bind (f_X12_keeps σ) fun q1 =>
    Option.bind (f_X12_drawOf (q1.1 0 53) q1) fun q2 =>
    fhlp (fun x => f_X12_deal_28 x.1 x.2 q2.2) (q2.1, (0 : Int32))
noncomputable def f_X12_qKind_76 (s0 : Int32) (σ : fhM) : Option (Int32 × fhM) :=
  if s0 = (5 : Int32) then
    Option.bind (f_X12_asks 57 σ) fun q6 =>
    some (s0, q6)
  else
    some (s0, σ)
noncomputable def f_X12_qKind  (σ : fhM) : Option (Int32 × fhM) :=
  Option.bind (f_X12_takes 52 σ) fun q1 =>
  if q1.1 = true then
    f_X12_qKind_76 (0 : Int32) q1.2
  else
    Option.bind (f_X12_takes 53 q1.2) fun q2 =>
    if q2.1 = true then
      f_X12_qKind_76 (1 : Int32) q2.2
    else
      Option.bind (f_X12_takes 54 q2.2) fun q3 =>
      if q3.1 = true then
        f_X12_qKind_76 (2 : Int32) q3.2
      else
        Option.bind (f_X12_takes 55 q3.2) fun q4 =>
        if q4.1 = true then
          f_X12_qKind_76 (3 : Int32) q4.2
        else
          Option.bind (f_X12_takes 56 q4.2) fun q5 =>
          f_X12_qKind_76 (if q5.1 = true then (4 : Int32) else (5 : Int32)) q5.2
noncomputable def f_X12_qTakes_133  (σ : fhM) : fhM :=
  (fhI σ 0 107 (0 : Int32))
noncomputable def f_X12_qTakes_128 (v2 : Int64) (σ : fhM) : fhM :=
  f_X12_qTakes_133 (fhJ σ 0 106 v2)
noncomputable def f_X12_qTakes_90 (v1 : Int32) (v2 : Int64) (σ : fhM) : fhM :=
  if v1 ≤ (3 : Int32) then
    f_X12_qTakes_133 σ
  else
    if (σ.1 0 107) = 0 then
      if v1 = (4 : Int32) then
        if (lg_cmp v2 (σ.2.1 0 106)) ≤ 0 then
          f_X12_qTakes_133 σ
        else
          f_X12_qTakes_128 v2 σ
      else
        if 0 ≤ (lg_cmp v2 (σ.2.1 0 106)) then
          f_X12_qTakes_133 σ
        else
          f_X12_qTakes_128 v2 σ
    else
      f_X12_qTakes_128 v2 σ
noncomputable def f_X12_qTakes_75 (v1 : Int32) (v2 : Int64) (σ : fhM) : fhM :=
  if v1 = (3 : Int32) then
    f_X12_qTakes_90 v1 v2 (fhJ σ 0 106 ((σ.2.1 0 106) + v2))
  else
    f_X12_qTakes_90 v1 v2 σ
noncomputable def f_X12_qTakes_55 (v1 : Int32) (v2 : Int64) (v5 : Int32) (σ : fhM) : fhM :=
  if v1 = (2 : Int32) then
    if v5 = 0 then
      f_X12_qTakes_75 v1 v2 σ
    else
      f_X12_qTakes_75 v1 v2 (fhJ σ 0 106 ((σ.2.1 0 106) + (1 : Int64)))
  else
    f_X12_qTakes_75 v1 v2 σ
noncomputable def f_X12_qTakes_48 (v1 : Int32) (v2 : Int64) (v4 : Int32) (v5 : Int32) (σ : fhM) : fhM :=
  f_X12_qTakes_55 v1 v2 v5 (fhJ σ 0 106 (Int32.toInt64 v4))
noncomputable def f_X12_qTakes_38 (v1 : Int32) (v2 : Int64) (v4 : Int32) (v5 : Int32) (σ : fhM) : fhM :=
  if v1 = (1 : Int32) then
    if v5 = 0 then
      f_X12_qTakes_55 v1 v2 v5 σ
    else
      f_X12_qTakes_48 v1 v2 v4 v5 σ
  else
    f_X12_qTakes_55 v1 v2 v5 σ
noncomputable def f_X12_qTakes_16 (v1 : Int32) (v2 : Int64) (v4 : Int32) (s0 : Int32) (σ : fhM) : fhM :=
  if v1 = 0 then
    if s0 = 0 then
      f_X12_qTakes_38 v1 v2 v4 s0 σ
    else
      if (lg_cmp (σ.2.1 0 106) (-1 : Int64)) = 0 then
        f_X12_qTakes_48 v1 v2 v4 s0 σ
      else
        f_X12_qTakes_38 v1 v2 v4 s0 σ
  else
    f_X12_qTakes_38 v1 v2 v4 s0 σ
noncomputable def f_X12_qTakes_15 (v1 : Int32) (v2 : Int64) (v4 : Int32) (σ : fhM) : fhM :=
  f_X12_qTakes_16 v1 v2 v4 (0 : Int32) σ
noncomputable def f_X12_qTakes (v1 : Int32) (v2 : Int64) (v4 : Int32) (σ : fhM) : fhM :=
  if (3 : Int32) ≤ v1 then
    f_X12_qTakes_15 v1 v2 v4 σ
  else
    if (lg_cmp v2 (1 : Int64)) = 0 then
      f_X12_qTakes_16 v1 v2 v4 (1 : Int32) σ
    else
      f_X12_qTakes_15 v1 v2 v4 σ
noncomputable def f_X12_ask_204 (v1 : Int32) (v2 : Int32) (σ : fhM) : Option ((Int32 × fhM) ⊕ (Int64 × fhM)) :=
  if (f_X12_guestMany σ) ≤ v2 then
    some (.inr ((σ.2.1 0 106), σ))
  else
    Option.bind (f_X12_qTold v2 (fhI σ 0 51 v2)) fun q7 =>
    fhlet (f_X12_qTakes v1 q7.1 v2 q7.2) fun q8 =>
    some (.inl ((v2 + (1 : Int32)), q8))
noncomputable def f_X12_ask_183 (v1 : Int32) (v2 : Int32) (σ : fhM) : Option ((Int32 × fhM) ⊕ (Int64 × fhM)) :=
  if (f_X12_guestMany σ) ≤ v2 then
    Option.map Sum.inr (fhlp (fun x => f_X12_ask_204 v1 x.1 x.2) ((0 : Int32), σ))
  else
    Option.bind (f_X12_laysOwn v2 σ) fun q6 =>
    some (.inl ((v2 + (1 : Int32)), q6))
noncomputable def f_X12_ask_173 (v1 : Int32) (s0 : Int64) (σ : fhM) : Option (Int64 × fhM) :=
  fhlp (fun x => f_X12_ask_183 v1 x.1 x.2) ((0 : Int32), (fhI (fhJ σ 0 106 s0) 0 107 (1 : Int32)))
noncomputable def f_X12_ask_133 (v1 : Int32) (σ : fhM) : Option (Int64 × fhM) :=
  if (σ.1 0 5) = 0 then
    f_X12_ask_173 v1 (if (2 : Int32) ≤ v1 then (0 : Int64) else (-1 : Int64)) (fhI (fhI σ 0 7 (σ.1 0 5)) 0 8 (σ.1 0 6))
  else
    some ((-1000000000000000 : Int64), (fhI (fhI σ 0 7 (σ.1 0 5)) 0 8 (σ.1 0 6)))
noncomputable def f_X12_ask_109 (v1 : Int32) (σ : fhM) : Option (Int64 × fhM) :=
  if (σ.1 0 5) = 0 then
    Option.bind (f_X12_look σ) fun q4 =>
    if q4.1 = (-1 : Int32) then
      f_X12_ask_133 v1 q4.2
    else
      fhlet (f_X12_fail (1 : Int32) (q4.2.1 0 2) q4.2) fun q5 =>
      f_X12_ask_133 v1 q5
  else
    f_X12_ask_133 v1 σ
noncomputable def f_X12_ask_98 (v1 : Int32) (σ : fhM) : Option (Int64 × fhM) :=
  if (σ.1 0 5) = 0 then
    Option.bind (f_X12_qSums σ) fun q3 =>
    f_X12_ask_109 v1 q3
  else
    f_X12_ask_109 v1 σ
noncomputable def f_X12_ask  (σ : fhM) : Option (Int64 × fhM) :=
  if (σ.1 0 47) = 0 then
    some ((-1000000000000000 : Int64), (fhI σ 0 1 (0 : Int32)))
  else
    Option.bind (f_X12_qKind (fhI (fhI (fhI (fhI (fhI (fhI (fhI (fhI (fhI (fhI (fhI σ 0 3 (σ.1 0 1)) 0 1 (0 : Int32)) 0 2 (0 : Int32)) 0 4 (-1 : Int32)) 0 5 (0 : Int32)) 0 6 (-1 : Int32)) 0 48 (1 : Int32)) 0 99 (0 : Int32)) 0 101 (0 : Int32)) 0 102 (0 : Int32)) 0 103 (0 : Int32))) fun q1 =>
    if (q1.2.1 0 5) = 0 then
      if (3 : Int32) ≤ q1.1 then
        f_X12_ask_98 q1.1 q1.2
      else
        Option.bind (f_X12_qTest q1.2) fun q2 =>
        f_X12_ask_109 q1.1 q2
    else
      f_X12_ask_98 q1.1 q1.2
noncomputable def f_X12_checked_6 (v0 : Nat) (v1 : Int32) (v2 : Int32) (v3 : Int32) (σ : fhM) : Option ((Int32 × Int32) ⊕ (Int32)) :=
  if v1 ≤ v3 then
    some (.inr v2)
  else
    if (fhin v3 (fhYM.1 v0).2.2 && true) = true then
    fhlet (fhrem (((3 : Int32) * v2) + (σ.1 v0 (fhix v3))) (251 : Int32)) fun w2_1 =>
    some (.inl (w2_1, (v3 + (1 : Int32))))
    else none
noncomputable def f_X12_checked (v0 : Nat) (v1 : Int32) (σ : fhM) : Option (Int32) :=
  fhlp (fun x => f_X12_checked_6 v0 v1 x.1 x.2 σ) ((197 : Int32), (0 : Int32))
noncomputable def f_X12_writes (v1 : Int32) (σ : fhM) : Option (fhM) :=
  if (fhin (σ.1 0 109) 136 && true) = true then
  some (fhI (fhI σ 79 (fhix (σ.1 0 109)) v1) 0 109 ((σ.1 0 109) + (1 : Int32)))
  else none
noncomputable def f_X12_writesTwo (v1 : Int32) (σ : fhM) : Option (fhM) :=
  Option.bind (f_X12_writes (v1 / (256 : Int32)) σ) fun q1 =>
  Option.bind (f_X12_writes (fhrem v1 (256 : Int32)) q1) fun q2 =>
  some q2
noncomputable def f_X12_twoAt (v1 : Int32) (σ : fhM) : Option (Int32) :=
  if (fhin v1 1600 && (fhin (v1 + (1 : Int32)) 1600 && true)) = true then
  some (((256 : Int32) * (σ.1 1 (fhix v1))) + (σ.1 1 (fhix (v1 + (1 : Int32)))))
  else none
noncomputable def f_X12_octet (v1 : Int32) (σ : fhM) : Option (Int32) :=
  if v1 < 0 then
    some (-1 : Int32)
  else
    if (σ.1 0 109) ≤ v1 then
      some (-1 : Int32)
    else
      if (fhin v1 136 && true) = true then
      some (σ.1 79 (fhix v1))
      else none
noncomputable def f_X12_status (v1 : Int32) (σ : fhM) : Option (Int32) :=
  if (f_X12_isIn (Int32.toInt64 v1) (0 : Int64) (5 : Int64) σ) = true then
    if (fhin v1 6 && true) = true then
    some (σ.1 2 (fhix v1))
    else none
  else
    some (-1 : Int32)
noncomputable def f_X12_image_60 (v1 : Int32) (v2 : Int32) (v3 : Int32) (σ : fhM) : Option ((Int32 × Int32) ⊕ ((Int32 × fhM) ⊕ (Int32 × fhM))) :=
  if (8 : Int32) ≤ v3 then
    Option.bind (f_X12_writes v2 σ) fun q6 =>
    some (.inr (.inl ((v1 + (8 : Int32)), q6)))
  else
    if (fhin (((2 : Int32) + v1) + v3) 1187 && true) = true then
    fhlet (v2 ||| ((σ.1 44 (fhix (((2 : Int32) + v1) + v3))) <<< (v3 &&& 31))) fun w2_1 =>
    some (.inl (w2_1, (v3 + (1 : Int32))))
    else none
noncomputable def f_X12_image_48 (v1 : Int32) (σ : fhM) : Option ((Int32 × fhM) ⊕ (Int32 × fhM)) :=
  if (σ.1 0 52) ≤ v1 then
    Option.bind (f_X12_checked 79 (σ.1 0 109) σ) fun q4 =>
    Option.bind (f_X12_writes q4 σ) fun q5 =>
    some (.inr ((q5.1 0 109), q5))
  else
    fhlp (fun x => f_X12_image_60 v1 x.1 x.2 σ) ((0 : Int32), (0 : Int32))
noncomputable def f_X12_image_17 (v1 : Int32) (σ : fhM) : Option ((Int32 × fhM) ⊕ (Int32 × fhM)) :=
  if (f_X12_guestMany σ) ≤ v1 then
    Option.map Sum.inr (fhlp (fun x => f_X12_image_48 x.1 x.2) ((0 : Int32), σ))
  else
    Option.bind (f_X12_markOf (σ.1 44 1) v1 σ) fun q2 =>
    Option.bind (f_X12_writes q2 σ) fun q3 =>
    some (.inl ((v1 + (1 : Int32)), q3))
noncomputable def f_X12_image  (σ : fhM) : Option (Int32 × fhM) :=
  Option.bind (f_X12_writesTwo (σ.1 44 0) (fhI σ 0 109 (0 : Int32))) fun q1 =>
  fhlp (fun x => f_X12_image_17 x.1 x.2) ((0 : Int32), q1)
noncomputable def f_X12_isImage_205 (v2 : Int32) (v3 : Int32) (v4 : Int32) (σ : fhM) : Option ((Int32) ⊕ (Bool)) :=
  some (.inl (v4 + (1 : Int32)))
noncomputable def f_X12_isImage_192 (v2 : Int32) (v3 : Int32) (v4 : Int32) (v5 : Int32) (σ : fhM) : Option ((Int32) ⊕ (Bool)) :=
  if v5 = 0 then
    if v4 = v3 then
      some (.inr false)
    else
      f_X12_isImage_205 v2 v3 v4 σ
  else
    f_X12_isImage_205 v2 v3 v4 σ
noncomputable def f_X12_isImage_166 (v2 : Int32) (v3 : Int32) (v4 : Int32) (s0 : Int32) (σ : fhM) : Option ((Int32) ⊕ (Bool)) :=
  if s0 = 0 then
    f_X12_isImage_192 v2 v3 v4 s0 σ
  else
    if (σ.1 0 52) ≤ v4 then
      some (.inr false)
    else
      if (fhin v4 1024 && true) = true then
      if (σ.1 37 (fhix v4)) = 0 then
        some (.inr false)
      else
        f_X12_isImage_192 v2 v3 v4 s0 σ
      else none
noncomputable def f_X12_isImage_119 (v2 : Int32) (v3 : Int32) (v4 : Int32) (σ : fhM) : Option ((Int32) ⊕ (Bool)) :=
  if ((8 : Int32) * (((σ.1 0 52) + (7 : Int32)) / (8 : Int32))) ≤ v4 then
    some (.inr true)
  else
    if (fhin (v2 + (v4 / (8 : Int32))) 1600 && true) = true then
    f_X12_isImage_166 v2 v3 v4 (if (((σ.1 1 (fhix (v2 + (v4 / (8 : Int32))))) >>> ((fhrem v4 (8 : Int32)) &&& 31)) &&& (1 : Int32)) = (1 : Int32) then (1 : Int32) else (0 : Int32)) σ
    else none
noncomputable def f_X12_isImage_73 (v2 : Int32) (v3 : Int32) (v4 : Int32) (σ : fhM) : Option ((Int32 × Int32) ⊕ (Bool)) :=
  if v4 ≤ (1 : Int32) then
    Option.map Sum.inr (fhlp (fun x => f_X12_isImage_119 v2 v3 x σ) (0 : Int32))
  else
    if (fhin v4 1600 && true) = true then
    if (σ.1 1 (fhix v4)) < (f_X12_markMany σ) then
      if (fhin v4 1600 && true) = true then
      fhlet (((f_X12_markMany σ) * v3) + (σ.1 1 (fhix v4))) fun w3_1 =>
      some (.inl (w3_1, (v4 + (-1 : Int32))))
      else none
    else
      some (.inr false)
    else none
noncomputable def f_X12_isImage (v1 : Int32) (σ : fhM) : Option (Bool) :=
  if (σ.1 0 47) = 0 then
    some false
  else
    if v1 = ((((2 : Int32) + (f_X12_guestMany σ)) + (((σ.1 0 52) + (7 : Int32)) / (8 : Int32))) + (1 : Int32)) then
      if (fhin (v1 - (1 : Int32)) 1600 && true) = true then
      Option.bind (f_X12_checked 1 (v1 - (1 : Int32)) σ) fun q1 =>
      if (σ.1 1 (fhix (v1 - (1 : Int32)))) = q1 then
        Option.bind (f_X12_twoAt (0 : Int32) σ) fun q2 =>
        if q2 ≤ (999 : Int32) then
          fhlet (((2 : Int32) + (f_X12_guestMany σ)) - (1 : Int32)) fun w4_1 =>
          fhlp (fun x => f_X12_isImage_73 ((2 : Int32) + (f_X12_guestMany σ)) x.1 x.2 σ) ((0 : Int32), w4_1)
        else
          some false
      else
        some false
      else none
    else
      some false
noncomputable def f_X12_on_90 (v2 : Int32) (v3 : Int32) (σ : fhM) : Option ((Int32 × fhM) ⊕ (Bool × fhM)) :=
  if (σ.1 0 52) ≤ v3 then
    some (.inr (true, (fhI (fhI σ 44 1026 (0 : Int32)) 0 71 (0 : Int32))))
  else
    if (fhin (v2 + (v3 / (8 : Int32))) 1600 && (fhin ((2 : Int32) + v3) 1187 && true)) = true then
    some (.inl ((v3 + (1 : Int32)), (fhI σ 44 (fhix ((2 : Int32) + v3)) (((σ.1 1 (fhix (v2 + (v3 / (8 : Int32))))) >>> ((fhrem v3 (8 : Int32)) &&& 31)) &&& (1 : Int32)))))
    else none
noncomputable def f_X12_on_53 (v2 : Int32) (v3 : Int32) (σ : fhM) : Option ((Int32 × fhM) ⊕ (Bool × fhM)) :=
  if v3 ≤ (1 : Int32) then
    Option.map Sum.inr (fhlp (fun x => f_X12_on_90 v2 x.1 x.2) ((0 : Int32), σ))
  else
    if (fhin v3 1600 && true) = true then
    some (.inl ((v3 + (-1 : Int32)), (fhI σ 44 1 (((f_X12_markMany σ) * (σ.1 44 1)) + (σ.1 1 (fhix v3))))))
    else none
noncomputable def f_X12_on  (σ : fhM) : Option (Bool × fhM) :=
  Option.bind (f_X12_isImage (σ.1 0 1) (fhI σ 0 1 (0 : Int32))) fun q1 =>
  if q1 = true then
    fhlet ((2 : Int32) + (f_X12_guestMany (fhI σ 0 1 (0 : Int32)))) fun w2_1 =>
    Option.bind (f_X12_twoAt (0 : Int32) (fhI σ 0 1 (0 : Int32))) fun q2 =>
    fhlp (fun x => f_X12_on_53 w2_1 x.1 x.2) ((w2_1 - (1 : Int32)), (fhI (fhI (fhI σ 0 1 (0 : Int32)) 44 0 q2) 44 1 (0 : Int32)))
  else
    Option.bind (f_X12_isRefused (5 : Int32) (fhI σ 0 1 (0 : Int32))) fun q3 =>
    some (q3.1, q3.2)
