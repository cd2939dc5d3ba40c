/-! THE CLASS, decompiled, by program -/
noncomputable def f_J9_max_7cf53 (v0 : Int32) (v1 : Int32) (σ : fhM) : Int32 :=
  if v0 < v1 then
    v1
  else
    v0
noncomputable def f_J9_min_7cf53 (v0 : Int32) (v1 : Int32) (σ : fhM) : Int32 :=
  if v1 < v0 then
    v1
  else
    v0
noncomputable def f_J9_max_f86c9 (v0 : Int64) (v2 : Int64) (σ : fhM) : Int64 :=
  if (lg_cmp v0 v2) < 0 then
    v2
  else
    v0
noncomputable def f_J9_min_f86c9 (v0 : Int64) (v2 : Int64) (σ : fhM) : Int64 :=
  if 0 < (lg_cmp v0 v2) then
    v2
  else
    v0
noncomputable def f_J9_floorDiv_7cf53 (v0 : Int32) (v1 : Int32) (σ : fhM) : Option (Int32) :=
  if (fhnz v1 && true) = true then
  if 0 ≤ (v0 ^^^ v1) then
    some (v0 / v1)
  else
    if ((v0 / v1) * v1) = v0 then
      some (v0 / v1)
    else
      some ((v0 / v1) - (1 : Int32))
  else none
noncomputable def f_J6_bitCount_0f7a4 (v0 : Int32) (σ : fhM) : Int32 :=
  fhlet (v0 - ((fhus v0 (1 : Int32)) &&& (1431655765 : Int32))) fun w0_1 =>
  fhlet ((w0_1 &&& (858993459 : Int32)) + ((fhus w0_1 (2 : Int32)) &&& (858993459 : Int32))) fun w0_2 =>
  fhlet ((w0_2 + (fhus w0_2 (4 : Int32))) &&& (252645135 : Int32)) fun w0_3 =>
  fhlet ((w0_3 + (fhus w0_3 (8 : Int32))) + (fhus (w0_3 + (fhus w0_3 (8 : Int32))) (16 : Int32))) fun w0_4 =>
  (w0_4 &&& (63 : Int32))
noncomputable def f_X11_refuse (v1 : Int32) (σ : fhM) : Int32 × fhM :=
  ((-1 : Int32), (fcP σ 100 v1 ((fcG σ 100 v1) + (1 : Int32))))
noncomputable def f_X11_putFour_3 (v1 : Int32) (v2 : Int32) (σ : fhM) : Option ((Int32 × fhM) ⊕ (fhM)) :=
  if v2 < 0 then
    some (.inr σ)
  else
    some (.inl ((v2 + (-8 : Int32)), (fhI (fcP σ 1 (σ.1 0 1) ((fhus v1 v2) &&& (255 : Int32))) 0 1 ((σ.1 0 1) + (1 : Int32)))))
noncomputable def f_X11_putFour (v1 : Int32) (σ : fhM) : Option (fhM) :=
  fhlp (fun x => f_X11_putFour_3 v1 x.1 x.2) ((24 : Int32), σ)
noncomputable def f_X11_feed (v1 : Int32) (v2 : Int32) (v3 : Int32) (v4 : Int32) (v5 : Int32) (σ : fhM) : Option (Int32 × fhM) :=
  if ((σ.1 0 1) + (20 : Int32)) ≤ (1600 : Int32) then
    Option.bind (f_X11_putFour v1 σ) fun q1 =>
    Option.bind (f_X11_putFour v2 q1) fun q2 =>
    Option.bind (f_X11_putFour v3 q2) fun q3 =>
    Option.bind (f_X11_putFour v4 q3) fun q4 =>
    Option.bind (f_X11_putFour v5 q4) fun q5 =>
    some ((q5.1 0 1), q5)
  else
    fhlet (f_X11_refuse (0 : Int32) σ) fun q6 =>
    some (q6.1, q6.2)
noncomputable def f_X11_end_12  (σ : fhM) : Bool × fhM :=
  fhlet (f_X11_refuse (0 : Int32) σ) fun q1 =>
  (false, q1.2)
noncomputable def f_X11_end (v1 : Int32) (σ : fhM) : Bool × fhM :=
  if v1 < 0 then
    f_X11_end_12 σ
  else
    if v1 ≤ (σ.1 0 1) then
      (true, (fhI σ 0 1 v1))
    else
      f_X11_end_12 σ
noncomputable def f_X11_takeTape  (σ : fhM) : Int32 × fhM :=
  ((σ.1 0 1), (fhI σ 0 1 (0 : Int32)))
noncomputable def f_X7_forget (v0 : Nat) (σ : fhM) : fhM :=
  (fcW (fhI (fhI (fhI (fhI (fhI (fhI (fhI (fhI (fhI σ v0 8 (0 : Int32)) v0 9 (0 : Int32)) v0 10 (0 : Int32)) v0 11 (0 : Int32)) v0 12 (0 : Int32)) v0 13 (0 : Int32)) v0 14 (0 : Int32)) v0 6 (1 : Int32)) (v0 + 1) 1 (0 : Int32)) (v0 + 4))
noncomputable def f_X8_sortOf_14 (v0 : Int32) (σ : fhM) : Int32 :=
  if v0 < (48 : Int32) then
    (3 : Int32)
  else
    if (57 : Int32) < v0 then
      (3 : Int32)
    else
      (2 : Int32)
noncomputable def f_X8_sortOf (v0 : Int32) (σ : fhM) : Int32 :=
  if v0 < (97 : Int32) then
    f_X8_sortOf_14 v0 σ
  else
    if (122 : Int32) < v0 then
      f_X8_sortOf_14 v0 σ
    else
      (1 : Int32)
noncomputable def f_X8_packLetters_5 (v0 : Nat) (v1 : Int32) (v2 : Int32) (v3 : Int32) (v4 : Int32) (σ : fhM) : Option ((Int32 × Int32) ⊕ (Int32)) :=
  if v2 ≤ v4 then
    some (.inr v3)
  else
    if (6 : Int32) < (v2 - v1) then
      some (.inr v3)
    else
      fhlet (v3 ||| ((((fcG σ v0 v4) - (97 : Int32)) + (1 : Int32)) <<< (((5 : Int32) * (v4 - v1)) &&& 31))) fun w3_1 =>
      some (.inl (w3_1, (v4 + (1 : Int32))))
noncomputable def f_X8_packLetters (v0 : Nat) (v1 : Int32) (v2 : Int32) (σ : fhM) : Option (Int32) :=
  fhlp (fun x => f_X8_packLetters_5 v0 v1 v2 x.1 x.2 σ) ((0 : Int32), v1)
noncomputable def f_X8_numberOf_5 (v0 : Nat) (v1 : Int32) (v2 : Int32) (v3 : Int32) (v4 : Int32) (σ : fhM) : Option ((Int32 × Int32) ⊕ (Int32)) :=
  if v2 ≤ v4 then
    some (.inr v3)
  else
    if (4 : Int32) ≤ (v4 - v1) then
      some (.inr v3)
    else
      fhlet (((v3 * (10 : Int32)) + (fcG σ v0 v4)) - (48 : Int32)) fun w3_1 =>
      some (.inl (w3_1, (v4 + (1 : Int32))))
noncomputable def f_X8_numberOf (v0 : Nat) (v1 : Int32) (v2 : Int32) (σ : fhM) : Option (Int32) :=
  fhlp (fun x => f_X8_numberOf_5 v0 v1 v2 x.1 x.2 σ) ((0 : Int32), v1)
noncomputable def f_X8_cutPiece_246 (v4 : Int32) (s0 : Int32) (s1 : Int32) (σ : fhM) : Option (Int32 × fhM) :=
  some (v4, (fhI (fcP σ 4 s1 s0) 3 1 ((σ.1 3 1) + (1 : Int32))))
noncomputable def f_X8_cutPiece_220 (v3 : Int32) (v4 : Int32) (v5 : Int32) (v8 : Int32) (s0 : Int32) (s1 : Int32) (σ : fhM) : Option (Int32 × fhM) :=
  f_X8_cutPiece_246 v4 (if v3 = (1 : Int32) then (f_X8_wordNumber v8 (fcP σ 4 s1 s0)) else (99 : Int32)) (v5 + (4 : Int32)) (fcP σ 4 s1 s0)
noncomputable def f_X8_cutPiece_179 (v1 : Nat) (v2 : Int32) (v3 : Int32) (v4 : Int32) (v5 : Int32) (v8 : Int32) (s0 : Int32) (s1 : Int32) (σ : fhM) : Option (Int32 × fhM) :=
  if v3 = (1 : Int32) then
    f_X8_cutPiece_220 v3 v4 v5 v8 v8 (v5 + (3 : Int32)) (fcP σ 4 s1 s0)
  else
    if v3 = (2 : Int32) then
      Option.bind (f_X8_numberOf v1 v2 v4 (fcP σ 4 s1 s0)) fun q2 =>
      f_X8_cutPiece_220 v3 v4 v5 v8 q2 (v5 + (3 : Int32)) (fcP σ 4 s1 s0)
    else
      f_X8_cutPiece_220 v3 v4 v5 v8 (fcG (fcP σ 4 s1 s0) v1 v2) (v5 + (3 : Int32)) (fcP σ 4 s1 s0)
noncomputable def f_X8_cutPiece_136 (v1 : Nat) (v2 : Int32) (v3 : Int32) (v4 : Int32) (v5 : Int32) (v7 : Int32) (s0 : Int32) (σ : fhM) : Option (Int32 × fhM) :=
  f_X8_cutPiece_179 v1 v2 v3 v4 v5 s0 (if v7 = 0 then v3 else (4 : Int32)) (v5 + (2 : Int32)) (fcP (fcP σ 4 v5 v2) 4 (v5 + (1 : Int32)) v4)
noncomputable def f_X8_cutPiece_118 (v1 : Nat) (v2 : Int32) (v3 : Int32) (v4 : Int32) (v5 : Int32) (s0 : Int32) (σ : fhM) : Option (Int32 × fhM) :=
  if v3 = (1 : Int32) then
    Option.bind (f_X8_packLetters v1 v2 v4 σ) fun q1 =>
    f_X8_cutPiece_136 v1 v2 v3 v4 v5 s0 q1 σ
  else
    f_X8_cutPiece_136 v1 v2 v3 v4 v5 s0 (0 : Int32) σ
noncomputable def f_X8_cutPiece_117 (v1 : Nat) (v2 : Int32) (v3 : Int32) (v4 : Int32) (v5 : Int32) (σ : fhM) : Option (Int32 × fhM) :=
  f_X8_cutPiece_118 v1 v2 v3 v4 v5 (0 : Int32) σ
noncomputable def f_X8_cutPiece_94 (v1 : Nat) (v2 : Int32) (v3 : Int32) (v4 : Int32) (v5 : Int32) (s0 : Int32) (σ : fhM) : Option (Int32 × fhM) :=
  if (σ.1 3 1) ≤ 0 then
    f_X8_cutPiece_117 v1 v2 v3 v4 v5 σ
  else
    if s0 = 0 then
      f_X8_cutPiece_117 v1 v2 v3 v4 v5 σ
    else
      if v3 = (3 : Int32) then
        f_X8_cutPiece_117 v1 v2 v3 v4 v5 σ
      else
        f_X8_cutPiece_118 v1 v2 v3 v4 v5 (1 : Int32) σ
noncomputable def f_X8_cutPiece_93 (v1 : Nat) (v2 : Int32) (v3 : Int32) (v4 : Int32) (v5 : Int32) (σ : fhM) : Option (Int32 × fhM) :=
  f_X8_cutPiece_94 v1 v2 v3 v4 v5 (0 : Int32) σ
noncomputable def f_X8_cutPiece_47 (v1 : Nat) (v2 : Int32) (v3 : Int32) (v4 : Int32) (σ : fhM) : Option (Int32 × fhM) :=
  if (fcG σ 4 ((((5 : Int32) * (σ.1 3 1)) - (5 : Int32)) + (1 : Int32))) = v2 then
    if (fcG σ 4 ((((5 : Int32) * (σ.1 3 1)) - (5 : Int32)) + (2 : Int32))) = (3 : Int32) then
      f_X8_cutPiece_93 v1 v2 v3 v4 ((5 : Int32) * (σ.1 3 1)) σ
    else
      f_X8_cutPiece_94 v1 v2 v3 v4 ((5 : Int32) * (σ.1 3 1)) (1 : Int32) σ
  else
    f_X8_cutPiece_93 v1 v2 v3 v4 ((5 : Int32) * (σ.1 3 1)) σ
noncomputable def f_X8_cutPiece_14 (v1 : Nat) (v2 : Int32) (v3 : Int32) (v4 : Int32) (σ : fhM) : Option ((Int32) ⊕ (Int32 × fhM)) :=
  if (σ.1 3 3) ≤ v4 then
    Option.map Sum.inr (f_X8_cutPiece_47 v1 v2 v3 v4 σ)
  else
    if v3 = (3 : Int32) then
      Option.map Sum.inr (f_X8_cutPiece_47 v1 v2 v3 v4 σ)
    else
      if (f_X8_sortOf (fcG σ v1 v4) σ) = v3 then
        some (.inl (v4 + (1 : Int32)))
      else
        Option.map Sum.inr (f_X8_cutPiece_47 v1 v2 v3 v4 σ)
noncomputable def f_X8_cutPiece (v1 : Nat) (v2 : Int32) (σ : fhM) : Option (Int32 × fhM) :=
  fhlp (fun x => f_X8_cutPiece_14 v1 v2 (f_X8_sortOf (fcG σ v1 v2) σ) x σ) (v2 + (1 : Int32))
noncomputable def f_X8_advance  (σ : fhM) : fhM :=
  if (σ.1 3 9) = 0 then
    if (σ.1 3 2) < (σ.1 3 1) then
      (fhI (fhI (fhI (fhI (fhI (fhI σ 3 8 (fcG σ 4 ((5 : Int32) * (σ.1 3 2)))) 3 5 (fcG (fhI σ 3 8 (fcG σ 4 ((5 : Int32) * (σ.1 3 2)))) 4 (((5 : Int32) * (σ.1 3 2)) + (1 : Int32)))) 3 4 (fcG (fhI (fhI σ 3 8 (fcG σ 4 ((5 : Int32) * (σ.1 3 2)))) 3 5 (fcG (fhI σ 3 8 (fcG σ 4 ((5 : Int32) * (σ.1 3 2)))) 4 (((5 : Int32) * (σ.1 3 2)) + (1 : Int32)))) 4 (((5 : Int32) * (σ.1 3 2)) + (2 : Int32)))) 3 6 (fcG (fhI (fhI (fhI σ 3 8 (fcG σ 4 ((5 : Int32) * (σ.1 3 2)))) 3 5 (fcG (fhI σ 3 8 (fcG σ 4 ((5 : Int32) * (σ.1 3 2)))) 4 (((5 : Int32) * (σ.1 3 2)) + (1 : Int32)))) 3 4 (fcG (fhI (fhI σ 3 8 (fcG σ 4 ((5 : Int32) * (σ.1 3 2)))) 3 5 (fcG (fhI σ 3 8 (fcG σ 4 ((5 : Int32) * (σ.1 3 2)))) 4 (((5 : Int32) * (σ.1 3 2)) + (1 : Int32)))) 4 (((5 : Int32) * (σ.1 3 2)) + (2 : Int32)))) 4 (((5 : Int32) * (σ.1 3 2)) + (3 : Int32)))) 3 7 (fcG (fhI (fhI (fhI (fhI σ 3 8 (fcG σ 4 ((5 : Int32) * (σ.1 3 2)))) 3 5 (fcG (fhI σ 3 8 (fcG σ 4 ((5 : Int32) * (σ.1 3 2)))) 4 (((5 : Int32) * (σ.1 3 2)) + (1 : Int32)))) 3 4 (fcG (fhI (fhI σ 3 8 (fcG σ 4 ((5 : Int32) * (σ.1 3 2)))) 3 5 (fcG (fhI σ 3 8 (fcG σ 4 ((5 : Int32) * (σ.1 3 2)))) 4 (((5 : Int32) * (σ.1 3 2)) + (1 : Int32)))) 4 (((5 : Int32) * (σ.1 3 2)) + (2 : Int32)))) 3 6 (fcG (fhI (fhI (fhI σ 3 8 (fcG σ 4 ((5 : Int32) * (σ.1 3 2)))) 3 5 (fcG (fhI σ 3 8 (fcG σ 4 ((5 : Int32) * (σ.1 3 2)))) 4 (((5 : Int32) * (σ.1 3 2)) + (1 : Int32)))) 3 4 (fcG (fhI (fhI σ 3 8 (fcG σ 4 ((5 : Int32) * (σ.1 3 2)))) 3 5 (fcG (fhI σ 3 8 (fcG σ 4 ((5 : Int32) * (σ.1 3 2)))) 4 (((5 : Int32) * (σ.1 3 2)) + (1 : Int32)))) 4 (((5 : Int32) * (σ.1 3 2)) + (2 : Int32)))) 4 (((5 : Int32) * (σ.1 3 2)) + (3 : Int32)))) 4 (((5 : Int32) * (σ.1 3 2)) + (4 : Int32)))) 3 2 ((σ.1 3 2) + (1 : Int32)))
    else
      (fhI (fhI (fhI σ 3 4 (0 : Int32)) 3 8 (σ.1 3 3)) 3 5 (σ.1 3 3))
  else
    σ
noncomputable def f_X8_open_97  (σ : fhM) : Option (fhM) :=
  fhlet (f_X8_advance σ) fun q1 =>
  some q1
noncomputable def f_X8_open_90 (v1 : Nat) (v4 : Int32) (s0 : Int32) (σ : fhM) : Option ((Int32 × Int32 × fhM) ⊕ (fhM)) :=
  some (.inl (s0, (v4 + (1 : Int32)), σ))
noncomputable def f_X8_open_71 (v1 : Nat) (v3 : Int32) (v4 : Int32) (s0 : Int32) (σ : fhM) : Option ((Int32 × Int32 × fhM) ⊕ (fhM)) :=
  if s0 = 0 then
    Option.bind (f_X8_cutPiece v1 v3 σ) fun q2 =>
    f_X8_open_90 v1 v4 q2.1 q2.2
  else
    f_X8_open_90 v1 v4 (v3 + (1 : Int32)) σ
noncomputable def f_X8_open_66 (v1 : Nat) (v3 : Int32) (v4 : Int32) (σ : fhM) : Option ((Int32 × Int32 × fhM) ⊕ (fhM)) :=
  f_X8_open_71 v1 v3 v4 (1 : Int32) σ
noncomputable def f_X8_open_30 (v1 : Nat) (v3 : Int32) (v4 : Int32) (σ : fhM) : Option ((Int32 × Int32 × fhM) ⊕ (fhM)) :=
  if (1600 : Int32) ≤ v4 then
    Option.map Sum.inr (f_X8_open_97 σ)
  else
    if (σ.1 3 3) ≤ v3 then
      Option.map Sum.inr (f_X8_open_97 σ)
    else
      if (fcG σ v1 v3) = (10 : Int32) then
        f_X8_open_66 v1 v3 v4 σ
      else
        if (fcG σ v1 v3) = (32 : Int32) then
          f_X8_open_66 v1 v3 v4 σ
        else
          f_X8_open_71 v1 v3 v4 (0 : Int32) σ
noncomputable def f_X8_open (v1 : Nat) (v2 : Int32) (σ : fhM) : Option (fhM) :=
  fhlp (fun x => f_X8_open_30 v1 x.1 x.2.1 x.2.2) ((0 : Int32), (0 : Int32), (fhI (fhI (fhI (fhI (fhI σ 3 3 v2) 3 9 (0 : Int32)) 3 10 (-1 : Int32)) 3 1 (0 : Int32)) 3 2 (0 : Int32)))
noncomputable def f_X7_open (v0 : Nat) (v1 : Nat) (v2 : Int32) (σ : fhM) : Option (fhM) :=
  fhlet (f_X7_forget v0 σ) fun q1 =>
  Option.bind (f_X8_open v1 v2 q1) fun q2 =>
  some q2
noncomputable def f_X8_isGoingOn  (σ : fhM) : Bool :=
  if (σ.1 3 4) = 0 then
    false
  else
    if (σ.1 3 9) = 0 then
      true
    else
      false
noncomputable def f_X8_wordHere  (σ : fhM) : Int32 :=
  if (σ.1 3 4) = (1 : Int32) then
    (σ.1 3 7)
  else
    (99 : Int32)
noncomputable def f_X8_fail (v1 : Int32) (v2 : Int32) (σ : fhM) : fhM :=
  if (σ.1 3 9) = 0 then
    (fhI (fhI (fhI σ 3 9 v1) 3 10 v2) 3 4 (4 : Int32))
  else
    σ
noncomputable def f_X8_failHere  (σ : fhM) : fhM :=
  fhlet (f_X8_fail (1 : Int32) (σ.1 3 8) σ) fun q1 =>
  q1
noncomputable def f_X7_statementWord_146 (v0 : Nat) (v1 : Int32) (σ : fhM) : Int32 × fhM :=
  fhlet (f_X8_failHere σ) fun q2 =>
  (v1, q2)
noncomputable def f_X7_statementWord_125 (v0 : Nat) (v1 : Int32) (v3 : Int32) (s0 : Int32) (σ : fhM) : Int32 × fhM :=
  if (σ.1 v0 8) = 0 then
    if v3 = 0 then
      f_X7_statementWord_146 v0 v1 σ
    else
      (v1, σ)
  else
    if s0 = 0 then
      f_X7_statementWord_146 v0 v1 σ
    else
      (v1, σ)
noncomputable def f_X7_statementWord_120 (v0 : Nat) (v1 : Int32) (v3 : Int32) (σ : fhM) : Int32 × fhM :=
  f_X7_statementWord_125 v0 v1 v3 (1 : Int32) σ
noncomputable def f_X7_statementWord_92 (v0 : Nat) (v1 : Int32) (s0 : Int32) (σ : fhM) : Int32 × fhM :=
  if v1 = (1 : Int32) then
    f_X7_statementWord_120 v0 v1 s0 σ
  else
    if v1 = (3 : Int32) then
      f_X7_statementWord_120 v0 v1 s0 σ
    else
      if v1 = (5 : Int32) then
        f_X7_statementWord_120 v0 v1 s0 σ
      else
        if v1 = (6 : Int32) then
          f_X7_statementWord_120 v0 v1 s0 σ
        else
          if v1 = (7 : Int32) then
            f_X7_statementWord_120 v0 v1 s0 σ
          else
            f_X7_statementWord_125 v0 v1 s0 (0 : Int32) σ
noncomputable def f_X7_statementWord_83 (v0 : Nat) (v1 : Int32) (σ : fhM) : Int32 × fhM :=
  f_X7_statementWord_92 v0 v1 (if v1 = 0 then (1 : Int32) else (0 : Int32)) σ
noncomputable def f_X7_statementWord_63 (v0 : Nat) (v1 : Int32) (s0 : Int32) (σ : fhM) : Int32 × fhM :=
  if s0 = 0 then
    f_X7_statementWord_83 v0 v1 σ
  else
    fhlet (f_X8_fail (5 : Int32) (σ.1 3 8) σ) fun q1 =>
    f_X7_statementWord_83 v0 v1 q1
noncomputable def f_X7_statementWord_58 (v0 : Nat) (v1 : Int32) (σ : fhM) : Int32 × fhM :=
  f_X7_statementWord_63 v0 v1 (1 : Int32) σ
noncomputable def f_X7_statementWord_49 (v0 : Nat) (v1 : Int32) (σ : fhM) : Int32 × fhM :=
  if (σ.1 v0 8) < (60 : Int32) then
    f_X7_statementWord_63 v0 v1 (0 : Int32) σ
  else
    f_X7_statementWord_58 v0 v1 σ
noncomputable def f_X7_statementWord_34 (v0 : Nat) (v1 : Int32) (σ : fhM) : Int32 × fhM :=
  if v1 = (6 : Int32) then
    if (8 : Int32) ≤ (σ.1 v0 12) then
      f_X7_statementWord_58 v0 v1 σ
    else
      f_X7_statementWord_49 v0 v1 σ
  else
    f_X7_statementWord_49 v0 v1 σ
noncomputable def f_X7_statementWord_21 (v0 : Nat) (v1 : Int32) (σ : fhM) : Int32 × fhM :=
  if v1 = (5 : Int32) then
    if (4 : Int32) ≤ (σ.1 v0 11) then
      f_X7_statementWord_58 v0 v1 σ
    else
      f_X7_statementWord_34 v0 v1 σ
  else
    f_X7_statementWord_34 v0 v1 σ
noncomputable def f_X7_statementWord (v0 : Nat) (σ : fhM) : Int32 × fhM :=
  if (f_X8_wordHere σ) = (1 : Int32) then
    if (5 : Int32) ≤ (σ.1 v0 10) then
      f_X7_statementWord_58 v0 (f_X8_wordHere σ) σ
    else
      f_X7_statementWord_21 v0 (f_X8_wordHere σ) σ
  else
    f_X7_statementWord_21 v0 (f_X8_wordHere σ) σ
noncomputable def f_X8_takeNumber_36  (σ : fhM) : Int32 × fhM :=
  fhlet (f_X8_advance σ) fun q3 =>
  ((σ.1 3 6), q3)
noncomputable def f_X8_takeNumber_12  (σ : fhM) : Int32 × fhM :=
  if ((σ.1 3 5) - (σ.1 3 8)) ≤ (4 : Int32) then
    f_X8_takeNumber_36 σ
  else
    fhlet (f_X8_fail (1 : Int32) ((σ.1 3 8) + (4 : Int32)) σ) fun q2 =>
    f_X8_takeNumber_36 q2
noncomputable def f_X8_takeNumber  (σ : fhM) : Int32 × fhM :=
  if (σ.1 3 4) = (2 : Int32) then
    f_X8_takeNumber_12 σ
  else
    fhlet (f_X8_failHere σ) fun q1 =>
    f_X8_takeNumber_12 q1
noncomputable def f_X8_takeNumberWithin_23 (v3 : Int32) (v4 : Int32) (σ : fhM) : Int32 × fhM :=
  fhlet (f_X8_fail (2 : Int32) v3 σ) fun q2 =>
  (v4, q2)
noncomputable def f_X8_takeNumberWithin (v1 : Int32) (v2 : Int32) (σ : fhM) : Int32 × fhM :=
  fhlet (f_X8_takeNumber σ) fun q1 =>
  if q1.1 < v1 then
    f_X8_takeNumberWithin_23 (σ.1 3 8) q1.1 q1.2
  else
    if q1.1 ≤ v2 then
      (q1.1, q1.2)
    else
      f_X8_takeNumberWithin_23 (σ.1 3 8) q1.1 q1.2
noncomputable def f_X8_takeName_47  (σ : fhM) : Int32 × fhM :=
  fhlet (f_X8_advance σ) fun q3 =>
  ((σ.1 3 6), q3)
noncomputable def f_X8_takeName_21  (σ : fhM) : Int32 × fhM :=
  if ((σ.1 3 5) - (σ.1 3 8)) ≤ (6 : Int32) then
    f_X8_takeName_47 σ
  else
    fhlet (f_X8_fail (1 : Int32) ((σ.1 3 8) + (6 : Int32)) σ) fun q2 =>
    f_X8_takeName_47 q2
noncomputable def f_X8_takeName_17  (σ : fhM) : Int32 × fhM :=
  fhlet (f_X8_failHere σ) fun q1 =>
  f_X8_takeName_21 q1
noncomputable def f_X8_takeName  (σ : fhM) : Int32 × fhM :=
  if (σ.1 3 4) = (1 : Int32) then
    if (26 : Int32) ≤ (σ.1 3 7) then
      f_X8_takeName_21 σ
    else
      f_X8_takeName_17 σ
  else
    f_X8_takeName_17 σ
noncomputable def f_X7_guestNamed_2 (v0 : Nat) (v1 : Int32) (v2 : Int32) (σ : fhM) : Option ((Int32) ⊕ (Int32)) :=
  if (σ.1 v0 10) ≤ v2 then
    some (.inr (-1 : Int32))
  else
    if (fcG σ (v0 + 10) v2) = v1 then
      some (.inr v2)
    else
      some (.inl (v2 + (1 : Int32)))
noncomputable def f_X7_guestNamed (v0 : Nat) (v1 : Int32) (σ : fhM) : Option (Int32) :=
  fhlp (fun x => f_X7_guestNamed_2 v0 v1 x σ) (0 : Int32)
noncomputable def f_X8_isWord (v1 : Int32) (σ : fhM) : Bool :=
  if (σ.1 3 4) = (1 : Int32) then
    if (σ.1 3 7) = v1 then
      true
    else
      false
  else
    false
noncomputable def f_X8_takeWord_12  (σ : fhM) : fhM :=
  fhlet (f_X8_advance σ) fun q2 =>
  q2
noncomputable def f_X8_takeWord (v1 : Int32) (σ : fhM) : fhM :=
  if (f_X8_isWord v1 σ) = true then
    f_X8_takeWord_12 σ
  else
    fhlet (f_X8_failHere σ) fun q1 =>
    f_X8_takeWord_12 q1
noncomputable def f_X7_readGuest_34 (v0 : Nat) (v2 : Int32) (σ : fhM) : Option (fhM) :=
  fhlet (f_X8_takeWord (2 : Int32) σ) fun q4 =>
  fhlet (f_X8_takeNumberWithin (0 : Int32) ((q4.1 v0 9) - (1 : Int32)) q4) fun q5 =>
  some (fhI (fhI (fhI (fcP q5.2 (v0 + 10) (q5.2.1 v0 10) v2) v0 10 (((fcP q5.2 (v0 + 10) (q5.2.1 v0 10) v2).1 v0 10) + (1 : Int32))) v0 14 (((fhI (fcP q5.2 (v0 + 10) (q5.2.1 v0 10) v2) v0 10 (((fcP q5.2 (v0 + 10) (q5.2.1 v0 10) v2).1 v0 10) + (1 : Int32))).1 v0 14) + (q5.1 * ((fhI (fcP q5.2 (v0 + 10) (q5.2.1 v0 10) v2) v0 10 (((fcP q5.2 (v0 + 10) (q5.2.1 v0 10) v2).1 v0 10) + (1 : Int32))).1 v0 6)))) v0 6 (((fhI (fhI (fcP q5.2 (v0 + 10) (q5.2.1 v0 10) v2) v0 10 (((fcP q5.2 (v0 + 10) (q5.2.1 v0 10) v2).1 v0 10) + (1 : Int32))) v0 14 (((fhI (fcP q5.2 (v0 + 10) (q5.2.1 v0 10) v2) v0 10 (((fcP q5.2 (v0 + 10) (q5.2.1 v0 10) v2).1 v0 10) + (1 : Int32))).1 v0 14) + (q5.1 * ((fhI (fcP q5.2 (v0 + 10) (q5.2.1 v0 10) v2) v0 10 (((fcP q5.2 (v0 + 10) (q5.2.1 v0 10) v2).1 v0 10) + (1 : Int32))).1 v0 6)))).1 v0 6) * ((fhI (fhI (fcP q5.2 (v0 + 10) (q5.2.1 v0 10) v2) v0 10 (((fcP q5.2 (v0 + 10) (q5.2.1 v0 10) v2).1 v0 10) + (1 : Int32))) v0 14 (((fhI (fcP q5.2 (v0 + 10) (q5.2.1 v0 10) v2) v0 10 (((fcP q5.2 (v0 + 10) (q5.2.1 v0 10) v2).1 v0 10) + (1 : Int32))).1 v0 14) + (q5.1 * ((fhI (fcP q5.2 (v0 + 10) (q5.2.1 v0 10) v2) v0 10 (((fcP q5.2 (v0 + 10) (q5.2.1 v0 10) v2).1 v0 10) + (1 : Int32))).1 v0 6)))).1 v0 9)))
noncomputable def f_X7_readGuest (v0 : Nat) (σ : fhM) : Option (fhM) :=
  fhlet (f_X8_takeName σ) fun q1 =>
  Option.bind (f_X7_guestNamed v0 q1.1 q1.2) fun q2 =>
  if q2 = (-1 : Int32) then
    f_X7_readGuest_34 v0 q1.1 q1.2
  else
    fhlet (f_X8_fail (3 : Int32) (σ.1 3 8) q1.2) fun q3 =>
    f_X7_readGuest_34 v0 q1.1 q3
noncomputable def f_X7_readBlind_92 (v0 : Nat) (v1 : Int32) (σ : fhM) : Option (fhM) :=
  fhlet (f_X8_fail (3 : Int32) v1 σ) fun q7 =>
  some q7
noncomputable def f_X7_readBlind_34 (v0 : Nat) (v2 : Int32) (σ : fhM) : Option (fhM) :=
  fhlet (f_X8_takeWord (4 : Int32) σ) fun q4 =>
  fhlet (f_X8_takeName q4) fun q5 =>
  Option.bind (f_X7_guestNamed v0 q5.1 q5.2) fun q6 =>
  if v2 = (-1 : Int32) then
    f_X7_readBlind_92 v0 (q4.1 3 8) q5.2
  else
    if q6 = (-1 : Int32) then
      f_X7_readBlind_92 v0 (q4.1 3 8) q5.2
    else
      if v2 = q6 then
        f_X7_readBlind_92 v0 (q4.1 3 8) q5.2
      else
        if (((fcG q5.2 (v0 + 4) v2) >>> (q6 &&& 31)) &&& (1 : Int32)) = 0 then
          some (fcP q5.2 (v0 + 4) v2 ((fcG q5.2 (v0 + 4) v2) ||| ((1 : Int32) <<< (q6 &&& 31))))
        else
          f_X7_readBlind_92 v0 (q4.1 3 8) q5.2
noncomputable def f_X7_readBlind (v0 : Nat) (σ : fhM) : Option (fhM) :=
  fhlet (f_X8_takeName σ) fun q1 =>
  Option.bind (f_X7_guestNamed v0 q1.1 q1.2) fun q2 =>
  if q2 = (-1 : Int32) then
    fhlet (f_X8_fail (3 : Int32) (σ.1 3 8) q1.2) fun q3 =>
    f_X7_readBlind_34 v0 q2 q3
  else
    f_X7_readBlind_34 v0 q2 q1.2
noncomputable def f_X5_begin (v1 : Nat) (v2 : Nat) (v3 : Int32) (σ : fhM) : Option (fhM) :=
  if (Nat.blt 0 v2 && (fhbit v3 && true)) = true then
  some (fhI (fhI (fhR (fhR σ 9 1 v1) 9 2 v2) 9 3 v3) 9 4 (0 : Int32))
  else none
noncomputable def f_X7_noteTest (v0 : Nat) (v1 : Int32) (v2 : Int32) (σ : fhM) : fhM :=
  if v1 = (5 : Int32) then
    (fhI (fcP (fcP σ (v0 + 6) ((2 : Int32) * (σ.1 v0 11)) v2) (v0 + 6) (((2 : Int32) * ((fcP σ (v0 + 6) ((2 : Int32) * (σ.1 v0 11)) v2).1 v0 11)) + (1 : Int32)) ((fcP σ (v0 + 6) ((2 : Int32) * (σ.1 v0 11)) v2).1 (v0 + 1) 1)) v0 11 (((fcP (fcP σ (v0 + 6) ((2 : Int32) * (σ.1 v0 11)) v2) (v0 + 6) (((2 : Int32) * ((fcP σ (v0 + 6) ((2 : Int32) * (σ.1 v0 11)) v2).1 v0 11)) + (1 : Int32)) ((fcP σ (v0 + 6) ((2 : Int32) * (σ.1 v0 11)) v2).1 (v0 + 1) 1)).1 v0 11) + (1 : Int32)))
  else
    (fhI (fcP (fcP σ (v0 + 8) ((2 : Int32) * (σ.1 v0 12)) v2) (v0 + 8) (((2 : Int32) * ((fcP σ (v0 + 8) ((2 : Int32) * (σ.1 v0 12)) v2).1 v0 12)) + (1 : Int32)) ((fcP σ (v0 + 8) ((2 : Int32) * (σ.1 v0 12)) v2).1 (v0 + 1) 1)) v0 12 (((fcP (fcP σ (v0 + 8) ((2 : Int32) * (σ.1 v0 12)) v2) (v0 + 8) (((2 : Int32) * ((fcP σ (v0 + 8) ((2 : Int32) * (σ.1 v0 12)) v2).1 v0 12)) + (1 : Int32)) ((fcP σ (v0 + 8) ((2 : Int32) * (σ.1 v0 12)) v2).1 (v0 + 1) 1)).1 v0 12) + (1 : Int32)))
noncomputable def f_X8_isSign (v1 : Int32) (σ : fhM) : Bool :=
  if (σ.1 3 4) = (3 : Int32) then
    if (σ.1 3 6) = v1 then
      true
    else
      false
  else
    false
noncomputable def f_X8_takeSign_12  (σ : fhM) : fhM :=
  fhlet (f_X8_advance σ) fun q2 =>
  q2
noncomputable def f_X8_takeSign (v1 : Int32) (σ : fhM) : fhM :=
  if (f_X8_isSign v1 σ) = true then
    f_X8_takeSign_12 σ
  else
    fhlet (f_X8_failHere σ) fun q1 =>
    f_X8_takeSign_12 q1
noncomputable def f_X8_failAtEnd (v1 : Int32) (σ : fhM) : fhM :=
  fhlet (f_X8_fail v1 (σ.1 3 3) σ) fun q1 =>
  q1
noncomputable def f_X10_countKinds_29 (v1 : Int32) (v3 : Int32) (s0 : Int32) (s1 : Int32) (σ : fhM) : Option ((Int32 × Int32) ⊕ (Int32)) :=
  some (.inl ((s1 + s0), (v3 + (1 : Int32))))
noncomputable def f_X10_countKinds_4 (v1 : Int32) (v2 : Int32) (v3 : Int32) (σ : fhM) : Option ((Int32 × Int32) ⊕ (Int32)) :=
  if v1 ≤ v3 then
    some (.inr v2)
  else
    f_X10_countKinds_29 v1 v3 (if (fcG σ 11 ((15 : Int32) + v3)) ≤ 0 then (0 : Int32) else (1 : Int32)) v2 σ
noncomputable def f_X10_countKinds (v1 : Int32) (σ : fhM) : Option (Int32) :=
  fhlp (fun x => f_X10_countKinds_4 v1 x.1 x.2 σ) ((0 : Int32), (0 : Int32))
noncomputable def f_X10_fillFromRow_120 (v2 : Int32) (v5 : Int32) (v6 : Int32) (v7 : Int32) (σ : fhM) : Option (fhM) :=
  Option.bind (f_X10_countKinds v2 (fcP (fcP (fcP σ 11 (5 : Int32) v5) 11 (6 : Int32) v6) 11 (7 : Int32) v7)) fun q1 =>
  some (fcP (fcP (fcP (fcP σ 11 (5 : Int32) v5) 11 (6 : Int32) v6) 11 (7 : Int32) v7) 11 (8 : Int32) q1)
noncomputable def f_X10_fillFromRow_30 (v2 : Int32) (v3 : Int32) (v4 : Int32) (v5 : Int32) (v6 : Int32) (v7 : Int32) (v8 : Int32) (σ : fhM) : Option ((Int32 × Int32 × Int32 × Int32 × Int32 × fhM) ⊕ (fhM)) :=
  if v3 ≤ v8 then
    Option.map Sum.inr (f_X10_fillFromRow_120 v2 v5 v6 v7 σ)
  else
    if v2 ≤ 0 then
      Option.map Sum.inr (f_X10_fillFromRow_120 v2 v5 v6 v7 σ)
    else
      if (fhnz v2 && (fhnz v2 && true)) = true then
      fhlet (f_J9_max_7cf53 v6 (fhrem v4 v2) (fcP (fcP σ 11 v8 (fhrem v4 v2)) 11 ((15 : Int32) + (fhrem v4 v2)) ((fcG (fcP σ 11 v8 (fhrem v4 v2)) 11 ((15 : Int32) + (fhrem v4 v2))) + (1 : Int32)))) fun w6_1 =>
      fhlet (f_J9_min_7cf53 v7 (fhrem v4 v2) (fcP (fcP σ 11 v8 (fhrem v4 v2)) 11 ((15 : Int32) + (fhrem v4 v2)) ((fcG (fcP σ 11 v8 (fhrem v4 v2)) 11 ((15 : Int32) + (fhrem v4 v2))) + (1 : Int32)))) fun w7_1 =>
      some (.inl ((v4 / v2), (v5 + (fhrem v4 v2)), w6_1, w7_1, (v8 + (1 : Int32)), (fcP (fcP σ 11 v8 (fhrem v4 v2)) 11 ((15 : Int32) + (fhrem v4 v2)) ((fcG (fcP σ 11 v8 (fhrem v4 v2)) 11 ((15 : Int32) + (fhrem v4 v2))) + (1 : Int32)))))
      else none
noncomputable def f_X10_fillFromRow_25 (v2 : Int32) (v3 : Int32) (v4 : Int32) (v5 : Int32) (v6 : Int32) (s0 : Int32) (σ : fhM) : Option (fhM) :=
  fhlp (fun x => f_X10_fillFromRow_30 v2 v3 x.1 x.2.1 x.2.2.1 x.2.2.2.1 x.2.2.2.2.1 x.2.2.2.2.2) (v4, v5, v6, s0, (0 : Int32), σ)
noncomputable def f_X10_fillFromRow (v1 : Int32) (v2 : Int32) (v3 : Int32) (σ : fhM) : Option (fhM) :=
  f_X10_fillFromRow_25 v2 v3 v1 (0 : Int32) (0 : Int32) (if v3 ≤ 0 then (0 : Int32) else v2) (fcW σ 11)
noncomputable def f_X10_push (v1 : Int32) (σ : fhM) : fhM :=
  (fhI (fcP σ 13 (σ.1 10 2) v1) 10 2 ((σ.1 10 2) + (1 : Int32)))
noncomputable def f_X10_pop  (σ : fhM) : Int32 × fhM :=
  ((fcG (fhI σ 10 2 (f_J9_max_7cf53 ((σ.1 10 2) - (1 : Int32)) (0 : Int32) σ)) 13 (f_J9_max_7cf53 ((σ.1 10 2) - (1 : Int32)) (0 : Int32) σ)), (fhI σ 10 2 (f_J9_max_7cf53 ((σ.1 10 2) - (1 : Int32)) (0 : Int32) σ)))
noncomputable def f_X10_hold (v0 : Int64) (σ : fhM) : Int32 :=
  (Int64.toInt32 (f_J9_max_f86c9 (-1000000 : Int64) (f_J9_min_f86c9 (1000000 : Int64) v0 σ) σ))
noncomputable def f_X10_reckon (v0 : Int32) (v1 : Int32) (v2 : Int32) (σ : fhM) : Option (Int32) :=
  if v0 = (4 : Int32) then
    some (f_X10_hold ((Int32.toInt64 v1) + (Int32.toInt64 v2)) σ)
  else
  if v0 = (5 : Int32) then
    some (f_X10_hold ((Int32.toInt64 v1) - (Int32.toInt64 v2)) σ)
  else
  if v0 = (6 : Int32) then
    some (f_X10_hold ((Int32.toInt64 v1) * (Int32.toInt64 v2)) σ)
  else
  if v0 = (7 : Int32) then
    if v2 = 0 then
      some (0 : Int32)
    else
      Option.bind (f_J9_floorDiv_7cf53 v1 v2 σ) fun q1 =>
      some q1
  else
  if v0 = (8 : Int32) then
    some (f_J9_min_7cf53 v1 v2 σ)
  else
  some (f_J9_max_7cf53 v1 v2 σ)
noncomputable def f_X10_judge_105 (v3 : Int32) (σ : fhM) : Int32 :=
  if v3 = 0 then
    (0 : Int32)
  else
    (1 : Int32)
noncomputable def f_X10_judge_104 (s0 : Int32) (σ : fhM) : Int32 :=
  f_X10_judge_105 s0 σ
noncomputable def f_X10_judge_99  (σ : fhM) : Int32 :=
  f_X10_judge_104 (1 : Int32) σ
noncomputable def f_X10_judge_42 (s0 : Int32) (σ : fhM) : Int32 :=
  f_X10_judge_105 s0 σ
noncomputable def f_X10_judge_56 (s0 : Int32) (σ : fhM) : Int32 :=
  f_X10_judge_105 s0 σ
noncomputable def f_X10_judge_70 (s0 : Int32) (σ : fhM) : Int32 :=
  f_X10_judge_105 s0 σ
noncomputable def f_X10_judge_87 (s0 : Int32) (σ : fhM) : Int32 :=
  f_X10_judge_105 s0 σ
noncomputable def f_X10_judge_86  (σ : fhM) : Int32 :=
  f_X10_judge_87 (0 : Int32) σ
noncomputable def f_X10_judge (v0 : Int32) (v1 : Int32) (v2 : Int32) (σ : fhM) : Int32 :=
  if v0 = (10 : Int32) then
    f_X10_judge_42 (if v2 ≤ v1 then (0 : Int32) else (1 : Int32)) σ
  else
  if v0 = (11 : Int32) then
    f_X10_judge_56 (if v1 ≤ v2 then (0 : Int32) else (1 : Int32)) σ
  else
  if v0 = (12 : Int32) then
    f_X10_judge_70 (if v1 = v2 then (1 : Int32) else (0 : Int32)) σ
  else
  if v0 = (13 : Int32) then
    if v1 = 0 then
      f_X10_judge_86 σ
    else
      if v2 = 0 then
        f_X10_judge_86 σ
      else
        f_X10_judge_87 (1 : Int32) σ
  else
  if v1 = 0 then
    if v2 = 0 then
      f_X10_judge_104 (0 : Int32) σ
    else
      f_X10_judge_99 σ
  else
    f_X10_judge_99 σ
noncomputable def f_X10_work_141 (s0 : Int32) (σ : fhM) : Option (fhM) :=
  fhlet (f_X10_push s0 σ) fun q10 =>
  some q10
noncomputable def f_X10_work_84 (s0 : Int32) (σ : fhM) : Option (fhM) :=
  fhlet (f_X10_push s0 σ) fun q9 =>
  some q9
noncomputable def f_X10_work_83  (σ : fhM) : Option (fhM) :=
  f_X10_work_84 (0 : Int32) σ
noncomputable def f_X10_work (v1 : Int32) (v2 : Int32) (σ : fhM) : Option (fhM) :=
  if v1 = (0 : Int32) then
    fhlet (f_X10_push v2 σ) fun q1 =>
    some q1
  else
  if v1 = (1 : Int32) then
    fhlet (f_X10_push (fcG σ 11 v2) σ) fun q2 =>
    some q2
  else
  if v1 = (2 : Int32) then
    fhlet (f_X10_pop σ) fun q3 =>
    if q3.1 < 0 then
      f_X10_work_83 q3.2
    else
      if (5 : Int32) ≤ q3.1 then
        f_X10_work_83 q3.2
      else
        f_X10_work_84 (fcG q3.2 11 (v2 + q3.1)) q3.2
  else
  if v1 = (3 : Int32) then
    fhlet (f_X10_pop σ) fun q4 =>
    fhlet (f_X10_push ((1 : Int32) - q4.1) q4.2) fun q5 =>
    some q5
  else
  fhlet (f_X10_pop σ) fun q6 =>
  fhlet (f_X10_pop q6.2) fun q7 =>
  if (10 : Int32) ≤ v1 then
    f_X10_work_141 (f_X10_judge v1 q7.1 q6.1 q7.2) q7.2
  else
    Option.bind (f_X10_reckon v1 q7.1 q6.1 q7.2) fun q8 =>
    f_X10_work_141 q8 q7.2
noncomputable def f_X10_value_8 (v1 : Nat) (v3 : Int32) (v4 : Int32) (σ : fhM) : Option ((Int32 × fhM) ⊕ (Int32 × fhM)) :=
  if v3 ≤ v4 then
    fhlet (f_X10_pop σ) fun q1 =>
    some (.inr (q1.1, q1.2))
  else
    Option.bind (f_X10_work ((fcG σ (v1 + 1) v4) &&& (15 : Int32)) ((fcG σ (v1 + 1) v4) >>> ((4 : Int32) &&& 31)) σ) fun q2 =>
    some (.inl ((v4 + (1 : Int32)), q2))
noncomputable def f_X10_value (v1 : Nat) (v2 : Int32) (v3 : Int32) (σ : fhM) : Option (Int32 × fhM) :=
  fhlp (fun x => f_X10_value_8 v1 v3 x.1 x.2) (v2, (fhI σ 10 2 (0 : Int32)))
noncomputable def f_X7_rulesHold_2 (v0 : Nat) (v2 : Int32) (σ : fhM) : Option ((Int32 × fhM) ⊕ (Bool × fhM)) :=
  if (σ.1 v0 11) ≤ v2 then
    some (.inr (true, σ))
  else
    Option.bind (f_X10_value (v0 + 1) (fcG σ (v0 + 6) ((2 : Int32) * v2)) (fcG σ (v0 + 6) (((2 : Int32) * v2) + (1 : Int32))) σ) fun q1 =>
    if q1.1 = 0 then
      some (.inr (false, q1.2))
    else
      some (.inl ((v2 + (1 : Int32)), q1.2))
noncomputable def f_X7_rulesHold (v0 : Nat) (σ : fhM) : Option (Bool × fhM) :=
  fhlp (fun x => f_X7_rulesHold_2 v0 x.1 x.2) ((0 : Int32), σ)
noncomputable def f_X7_close_15 (v0 : Nat) (σ : fhM) : Option (fhM) :=
  if (σ.1 3 9) = 0 then
    Option.bind (f_X10_fillFromRow (σ.1 v0 14) (σ.1 v0 9) (σ.1 v0 10) σ) fun q2 =>
    Option.bind (f_X7_rulesHold v0 q2) fun q3 =>
    if q3.1 = true then
      some q3.2
    else
      fhlet (f_X8_failAtEnd (6 : Int32) q3.2) fun q4 =>
      some q4
  else
    some σ
noncomputable def f_X7_close (v0 : Nat) (σ : fhM) : Option (fhM) :=
  if (σ.1 v0 8) = 0 then
    fhlet (f_X8_failAtEnd (1 : Int32) σ) fun q1 =>
    f_X7_close_15 v0 q1
  else
    f_X7_close_15 v0 σ
noncomputable def f_X11_noteFault_33 (s0 : Int32) (σ : fhM) : fhM :=
  (fhI σ 0 18 s0)
noncomputable def f_X11_noteFault  (σ : fhM) : fhM :=
  f_X11_noteFault_33 (if (σ.1 3 9) = 0 then (-1 : Int32) else (σ.1 3 10)) (fhI σ 0 17 (σ.1 3 9))
noncomputable def f_X7_seenBy (v0 : Nat) (v1 : Int32) (σ : fhM) : Int32 :=
  (((((1 : Int32) <<< ((σ.1 v0 10) &&& 31)) - (1 : Int32)) &&& (((1 : Int32) <<< (v1 &&& 31)) ^^^ (-1 : Int32))) &&& ((fcG σ (v0 + 4) v1) ^^^ (-1 : Int32)))
noncomputable def f_X9_markOf (v1 : Int32) (v2 : Int32) (σ : fhM) : Int32 :=
  (fcG σ 42 ((v1 * (5 : Int32)) + v2))
noncomputable def f_X9_fillViews_113 (v1 : Int32) (v3 : Int32) (v4 : Int32) (v5 : Int32) (σ : fhM) : Option ((Int32 × Int32) ⊕ ((Int32 × fhM) ⊕ (fhM))) :=
  some (.inl (v4, (v5 + (1 : Int32))))
noncomputable def f_X9_fillViews_66 (v1 : Int32) (v3 : Int32) (v4 : Int32) (v5 : Int32) (σ : fhM) : Option ((Int32 × Int32) ⊕ ((Int32 × fhM) ⊕ (fhM))) :=
  if (σ.1 39 9) ≤ v5 then
    some (.inr (.inl ((v3 + (1 : Int32)), (fcP σ 44 ((v1 * (5 : Int32)) + v3) v4))))
  else
    f_X9_fillViews_113 v1 v3 (if (((fcG σ 50 v3) >>> (v5 &&& 31)) &&& (1 : Int32)) = 0 then v4 else (v4 + ((f_X9_markOf v1 v5 σ) * (fcG σ 40 v5)))) v5 σ
noncomputable def f_X9_fillViews_52 (v1 : Int32) (v3 : Int32) (σ : fhM) : Option ((Int32 × fhM) ⊕ (fhM)) :=
  if (σ.1 39 9) ≤ v3 then
    some (.inr σ)
  else
    fhlp (fun x => f_X9_fillViews_66 v1 v3 x.1 x.2 σ) ((0 : Int32), (0 : Int32))
noncomputable def f_X9_fillViews_50 (v1 : Int32) (σ : fhM) : Option (fhM) :=
  fhlp (fun x => f_X9_fillViews_52 v1 x.1 x.2) ((0 : Int32), σ)
noncomputable def f_X9_fillViews_4 (v1 : Int32) (v2 : Int32) (v3 : Int32) (σ : fhM) : Option ((Int32 × Int32 × fhM) ⊕ (fhM)) :=
  if (σ.1 39 9) ≤ v3 then
    Option.map Sum.inr (f_X9_fillViews_50 v1 σ)
  else
    if (σ.1 39 5) ≤ 0 then
      Option.map Sum.inr (f_X9_fillViews_50 v1 σ)
    else
      if (fhnz (σ.1 39 5) && true) = true then
      if (fhnz (σ.1 39 5) && true) = true then
      some (.inl ((v2 / (σ.1 39 5)), (v3 + (1 : Int32)), (fcP σ 42 ((v1 * (5 : Int32)) + v3) (fhrem v2 (σ.1 39 5)))))
      else none
      else none
noncomputable def f_X9_fillViews (v1 : Int32) (σ : fhM) : Option (fhM) :=
  fhlp (fun x => f_X9_fillViews_4 v1 x.1 x.2.1 x.2.2) (v1, (0 : Int32), σ)
noncomputable def f_X7_truthBits_4 (v0 : Nat) (v2 : Int32) (v3 : Int32) (σ : fhM) : Option ((Int32 × Int32 × fhM) ⊕ (Int32 × fhM)) :=
  if (σ.1 v0 12) ≤ v3 then
    some (.inr (v2, σ))
  else
    Option.bind (f_X10_value (v0 + 1) (fcG σ (v0 + 8) ((2 : Int32) * v3)) (fcG σ (v0 + 8) (((2 : Int32) * v3) + (1 : Int32))) σ) fun q1 =>
    some (.inl ((v2 ||| (q1.1 <<< (v3 &&& 31))), (v3 + (1 : Int32)), q1.2))
noncomputable def f_X7_truthBits (v0 : Nat) (σ : fhM) : Option (Int32 × fhM) :=
  fhlp (fun x => f_X7_truthBits_4 v0 x.1 x.2.1 x.2.2) ((0 : Int32), (0 : Int32), σ)
noncomputable def f_X9_build_198 (v1 : Nat) (v3 : Int32) (σ : fhM) : Option ((Int32 × fhM) ⊕ (fhM)) :=
  some (.inl ((v3 + (1 : Int32)), σ))
noncomputable def f_X9_build_120 (v1 : Nat) (v3 : Int32) (σ : fhM) : Option ((Int32 × fhM) ⊕ (fhM)) :=
  if (σ.1 39 11) ≤ v3 then
    some (.inr σ)
  else
    Option.bind (f_X9_fillViews v3 σ) fun q1 =>
    Option.bind (f_X10_fillFromRow v3 (q1.1 39 5) (q1.1 39 9) q1) fun q2 =>
    Option.bind (f_X7_rulesHold v1 q2) fun q3 =>
    if q3.1 = true then
      Option.bind (f_X7_truthBits v1 q3.2) fun q4 =>
      f_X9_build_198 v1 v3 (fhI (fcP (fcP (fcP q4.2 52 v3 q4.1) 46 v3 (1 : Int32)) 54 (q4.2.1 39 12) v3) 39 12 ((q4.2.1 39 12) + (1 : Int32)))
    else
      f_X9_build_198 v1 v3 q3.2
noncomputable def f_X9_build_35 (v1 : Nat) (v3 : Int32) (σ : fhM) : Option ((Int32 × fhM) ⊕ (fhM)) :=
  if (σ.1 39 9) ≤ v3 then
    Option.map Sum.inr (fhlp (fun x => f_X9_build_120 v1 x.1 x.2) ((0 : Int32), (fhI (fcW (fhI σ 39 11 (f_J9_min_7cf53 (fcG σ 40 (σ.1 39 9)) (1024 : Int32) σ)) 46) 39 12 (0 : Int32))))
  else
    some (.inl ((v3 + (1 : Int32)), (fcP (fcP σ 40 (v3 + (1 : Int32)) ((fcG σ 40 v3) * (σ.1 39 5))) 50 v3 (f_X7_seenBy v1 v3 (fcP σ 40 (v3 + (1 : Int32)) ((fcG σ 40 v3) * (σ.1 39 5)))))))
noncomputable def f_X9_build (v1 : Nat) (σ : fhM) : Option (fhM) :=
  fhlp (fun x => f_X9_build_35 v1 x.1 x.2) ((0 : Int32), (fcP (fhI (fhI (fhI σ 39 5 (σ.1 v1 9)) 39 9 ((fhI σ 39 5 (σ.1 v1 9)).1 v1 10)) 39 10 ((fhI (fhI σ 39 5 (σ.1 v1 9)) 39 9 ((fhI σ 39 5 (σ.1 v1 9)).1 v1 10)).1 v1 12)) 40 (0 : Int32) (1 : Int32)))
noncomputable def f_X9_viewOf (v1 : Int32) (v2 : Int32) (σ : fhM) : Int32 :=
  (fcG σ 44 ((v1 * (5 : Int32)) + v2))
noncomputable def f_X9_findKnowers_168 (v1 : Nat) (v2 : Int32) (v3 : Int32) (v4 : Nat) (v5 : Int32) (v6 : Int32) (σ : fhM) : Option ((Int32 × fhM) ⊕ ((Int32 × fhM) ⊕ (fhM))) :=
  if v3 ≤ v6 then
    some (.inr (.inl ((v5 + (1 : Int32)), σ)))
  else
    some (.inl ((v6 + (1 : Int32)), (fcP σ 48 (f_X9_viewOf (fcG σ v1 v6) v5 σ) (0 : Int32))))
noncomputable def f_X9_findKnowers_159 (v1 : Nat) (v2 : Int32) (v3 : Int32) (v4 : Nat) (v5 : Int32) (v6 : Int32) (σ : fhM) : Option ((Int32 × fhM) ⊕ ((Int32 × fhM) ⊕ (fhM))) :=
  some (.inl ((v6 + (1 : Int32)), σ))
noncomputable def f_X9_findKnowers_104 (v1 : Nat) (v2 : Int32) (v3 : Int32) (v4 : Nat) (v5 : Int32) (v6 : Int32) (σ : fhM) : Option ((Int32 × fhM) ⊕ ((Int32 × fhM) ⊕ (fhM))) :=
  if v3 ≤ v6 then
    Option.map Sum.inr (fhlp (fun x => f_X9_findKnowers_168 v1 v2 v3 v4 v5 x.1 x.2) (v2, σ))
  else
    if (f_J6_bitCount_0f7a4 (fcG σ 48 (f_X9_viewOf (fcG σ v1 v6) v5 σ)) σ) = (1 : Int32) then
      f_X9_findKnowers_159 v1 v2 v3 v4 v5 v6 (fcP σ v4 (fcG σ v1 v6) ((fcG σ v4 (fcG σ v1 v6)) ||| ((1 : Int32) <<< (v5 &&& 31))))
    else
      f_X9_findKnowers_159 v1 v2 v3 v4 v5 v6 σ
noncomputable def f_X9_findKnowers_42 (v1 : Nat) (v2 : Int32) (v3 : Int32) (v4 : Nat) (v5 : Int32) (v6 : Int32) (σ : fhM) : Option ((Int32 × fhM) ⊕ ((Int32 × fhM) ⊕ (fhM))) :=
  if v3 ≤ v6 then
    Option.map Sum.inr (fhlp (fun x => f_X9_findKnowers_104 v1 v2 v3 v4 v5 x.1 x.2) (v2, σ))
  else
    some (.inl ((v6 + (1 : Int32)), (fcP σ 48 (f_X9_viewOf (fcG σ v1 v6) v5 σ) ((fcG σ 48 (f_X9_viewOf (fcG σ v1 v6) v5 σ)) ||| ((1 : Int32) <<< ((f_X9_markOf (fcG σ v1 v6) v5 σ) &&& 31))))))
noncomputable def f_X9_findKnowers_30 (v1 : Nat) (v2 : Int32) (v3 : Int32) (v4 : Nat) (v5 : Int32) (σ : fhM) : Option ((Int32 × fhM) ⊕ (fhM)) :=
  if (σ.1 39 9) ≤ v5 then
    some (.inr σ)
  else
    fhlp (fun x => f_X9_findKnowers_42 v1 v2 v3 v4 v5 x.1 x.2) (v2, σ)
noncomputable def f_X9_findKnowers_3 (v1 : Nat) (v2 : Int32) (v3 : Int32) (v4 : Nat) (v5 : Int32) (σ : fhM) : Option ((Int32 × fhM) ⊕ (fhM)) :=
  if v3 ≤ v5 then
    Option.map Sum.inr (fhlp (fun x => f_X9_findKnowers_30 v1 v2 v3 v4 x.1 x.2) ((0 : Int32), σ))
  else
    some (.inl ((v5 + (1 : Int32)), (fcP σ v4 (fcG σ v1 v5) (0 : Int32))))
noncomputable def f_X9_findKnowers (v1 : Nat) (v2 : Int32) (v3 : Int32) (v4 : Nat) (σ : fhM) : Option (fhM) :=
  fhlp (fun x => f_X9_findKnowers_3 v1 v2 v3 v4 x.1 x.2) (v2, σ)
noncomputable def f_X0_forget  (σ : fhM) : fhM :=
  (fhI σ 57 3 (0 : Int32))
noncomputable def f_X4_settle  (σ : fhM) : Option (fhM) :=
  Option.bind (f_X9_findKnowers 72 (0 : Int32) (σ.1 56 8) 74 σ) fun q1 =>
  fhlet (f_X0_forget q1) fun q2 =>
  some q2
noncomputable def f_X4_begin_2 (v1 : Int32) (v2 : Int32) (σ : fhM) : Option ((Int32 × fhM) ⊕ (fhM)) :=
  if (σ.1 39 12) ≤ v2 then
    Option.bind (f_X4_settle (fhI (fhI (fhI σ 56 8 (σ.1 39 12)) 56 10 (0 : Int32)) 56 9 v1)) fun q1 =>
    some (.inr q1)
  else
    some (.inl ((v2 + (1 : Int32)), (fcP σ 72 v2 (fcG σ 54 v2))))
noncomputable def f_X4_begin (v1 : Int32) (σ : fhM) : Option (fhM) :=
  fhlp (fun x => f_X4_begin_2 v1 x.1 x.2) ((0 : Int32), σ)
noncomputable def f_X1_forget  (σ : fhM) : fhM :=
  (fhI (fhI σ 76 9 (0 : Int32)) 76 13 (0 : Int32))
noncomputable def f_X6_wipe  (σ : fhM) : fhM :=
  (fhI (fhI (fhI σ 93 1 (0 : Int32)) 93 3 (0 : Int32)) 93 4 (0 : Int32))
noncomputable def f_X11_fault (v1 : Int32) (σ : fhM) : Int32 :=
  if v1 = (0 : Int32) then
    (σ.1 0 17)
  else
  if v1 = (1 : Int32) then
    (σ.1 0 18)
  else
  (-1 : Int32)
noncomputable def f_X4_knowers  (σ : fhM) : Int32 :=
  if (σ.1 56 8) ≤ 0 then
    (0 : Int32)
  else
    (fcG σ 74 (σ.1 56 9))
noncomputable def f_X6_toldCount  (σ : fhM) : Int32 :=
  (f_J9_min_7cf53 (σ.1 93 1) (40 : Int32) σ)
noncomputable def f_X11_has (v1 : Int32) (σ : fhM) : Option (Int32) :=
  if v1 = (0 : Int32) then
    if fhiP (σ.2.2 0 6) = true then
    some (σ.1 (σ.2.2 0 6) 9)
    else none
  else
  if v1 = (1 : Int32) then
    some (σ.1 39 9)
  else
  if v1 = (2 : Int32) then
    if fhiP (σ.2.2 0 6) = true then
    some (σ.1 (σ.2.2 0 6) 11)
    else none
  else
  if v1 = (3 : Int32) then
    some (σ.1 39 10)
  else
  if v1 = (4 : Int32) then
    some (σ.1 56 10)
  else
  if v1 = (5 : Int32) then
    some (σ.1 56 8)
  else
  if v1 = (6 : Int32) then
    some (σ.1 39 12)
  else
  if v1 = (7 : Int32) then
    some (f_J6_bitCount_0f7a4 (f_X4_knowers σ) σ)
  else
  if v1 = (8 : Int32) then
    some (f_X6_toldCount σ)
  else
  if v1 = (9 : Int32) then
    some (σ.1 76 13)
  else
  if v1 = (10 : Int32) then
    some (σ.1 93 4)
  else
  some (-1 : Int32)
noncomputable def f_X11_isGuest (v1 : Int32) (σ : fhM) : Bool :=
  if v1 < 0 then
    false
  else
    if (σ.1 39 9) ≤ v1 then
      false
    else
      true
noncomputable def f_X11_isFact (v1 : Int32) (σ : fhM) : Bool :=
  if v1 < 0 then
    false
  else
    if (σ.1 39 10) ≤ v1 then
      false
    else
      true
noncomputable def f_X11_isPair (v1 : Int32) (v2 : Int32) (σ : fhM) : Bool :=
  if (f_X11_isGuest v1 σ) = true then
    if (f_X11_isGuest v2 σ) = true then
      if v1 = v2 then
        false
      else
        true
    else
      false
  else
    false
noncomputable def f_X11_one (v0 : Int32) (σ : fhM) : Int32 :=
  if v0 = 0 then
    (0 : Int32)
  else
    (1 : Int32)
noncomputable def f_X11_letter (v1 : Int32) (v2 : Int32) (σ : fhM) : Option (Int32) :=
  if (f_X11_isGuest v1 σ) = true then
    if v2 < 0 then
      some (-1 : Int32)
    else
      if v2 < (6 : Int32) then
        if fhiP (σ.2.2 0 6) = true then
        some (((fcG σ ((σ.2.2 0 6) + 10) v1) >>> (((5 : Int32) * v2) &&& 31)) &&& (31 : Int32))
        else none
      else
        some (-1 : Int32)
  else
    some (-1 : Int32)
noncomputable def f_X4_isRowOf (v1 : Int32) (v2 : Int32) (σ : fhM) : Bool :=
  if (f_X9_viewOf v2 v1 σ) = (f_X9_viewOf (σ.1 56 9) v1 σ) then
    true
  else
    false
noncomputable def f_X4_countRowsOf_34 (v1 : Int32) (v3 : Int32) (s0 : Int32) (s1 : Int32) (σ : fhM) : Option ((Int32 × Int32) ⊕ (Int32)) :=
  some (.inl ((s1 + s0), (v3 + (1 : Int32))))
noncomputable def f_X4_countRowsOf_4 (v1 : Int32) (v2 : Int32) (v3 : Int32) (σ : fhM) : Option ((Int32 × Int32) ⊕ (Int32)) :=
  if (σ.1 56 8) ≤ v3 then
    some (.inr v2)
  else
    f_X4_countRowsOf_34 v1 v3 (if (f_X4_isRowOf v1 (fcG σ 72 v3) σ) = true then (1 : Int32) else (0 : Int32)) v2 σ
noncomputable def f_X4_countRowsOf (v1 : Int32) (σ : fhM) : Option (Int32) :=
  fhlp (fun x => f_X4_countRowsOf_4 v1 x.1 x.2 σ) ((0 : Int32), (0 : Int32))
noncomputable def f_X4_isKnower (v1 : Int32) (σ : fhM) : Bool :=
  if (((f_X4_knowers σ) >>> (v1 &&& 31)) &&& (1 : Int32)) = 0 then
    false
  else
    true
noncomputable def f_X4_marksHeld_47 (v1 : Int32) (v2 : Int32) (v3 : Int32) (σ : fhM) : Option ((Int32 × Int32) ⊕ (Int32)) :=
  some (.inl (v2, (v3 + (1 : Int32))))
noncomputable def f_X4_marksHeld_4 (v1 : Int32) (v2 : Int32) (v3 : Int32) (σ : fhM) : Option ((Int32 × Int32) ⊕ (Int32)) :=
  if (σ.1 56 8) ≤ v3 then
    some (.inr v2)
  else
    if (f_X4_isRowOf v1 (fcG σ 72 v3) σ) = true then
      fhlet (v2 ||| ((1 : Int32) <<< ((f_X9_markOf (fcG σ 72 v3) v1 σ) &&& 31))) fun w2_1 =>
      f_X4_marksHeld_47 v1 w2_1 v3 σ
    else
      f_X4_marksHeld_47 v1 v2 v3 σ
noncomputable def f_X4_marksHeld (v1 : Int32) (σ : fhM) : Option (Int32) :=
  fhlp (fun x => f_X4_marksHeld_4 v1 x.1 x.2 σ) ((0 : Int32), (0 : Int32))
noncomputable def f_X11_guest (v1 : Int32) (v2 : Int32) (σ : fhM) : Option (Int32) :=
  if (f_X11_isGuest v1 σ) = true then
    if v2 = (0 : Int32) then
      some (f_X9_markOf (σ.1 56 9) v1 σ)
    else
    if v2 = (1 : Int32) then
      some (fcG σ 50 v1)
    else
    if v2 = (2 : Int32) then
      Option.bind (f_X4_countRowsOf v1 σ) fun q1 =>
      some q1
    else
    if v2 = (3 : Int32) then
      some (f_X11_one (fhb (f_X4_isKnower v1 σ)) σ)
    else
    if v2 = (4 : Int32) then
      Option.bind (f_X4_marksHeld v1 σ) fun q2 =>
      some q2
    else
    some (-1 : Int32)
  else
    some (-1 : Int32)
noncomputable def f_X9_holdsIn (v1 : Int32) (v2 : Int32) (σ : fhM) : Bool :=
  if (((fcG σ 52 v1) >>> (v2 &&& 31)) &&& (1 : Int32)) = 0 then
    false
  else
    true
noncomputable def f_X4_countAlike_52 (v1 : Nat) (v2 : Int32) (v3 : Int32) (v5 : Int32) (s0 : Int32) (s1 : Int32) (σ : fhM) : Option ((Int32 × Int32) ⊕ (Int32)) :=
  some (.inl ((s1 + s0), (v5 + (1 : Int32))))
noncomputable def f_X4_countAlike_17 (v1 : Nat) (v2 : Int32) (v3 : Int32) (v4 : Int32) (v5 : Int32) (σ : fhM) : Option ((Int32 × Int32) ⊕ (Int32)) :=
  if (σ.1 56 8) ≤ v5 then
    some (.inr v4)
  else
    f_X4_countAlike_52 v1 v2 v3 v5 (if ((fcG σ v1 (fcG σ 72 v5)) &&& v2) = v3 then (1 : Int32) else (0 : Int32)) v4 σ
noncomputable def f_X4_countAlike (v1 : Nat) (v2 : Int32) (σ : fhM) : Option (Int32) :=
  fhlp (fun x => f_X4_countAlike_17 v1 v2 ((fcG σ v1 (σ.1 56 9)) &&& v2) x.1 x.2 σ) ((0 : Int32), (0 : Int32))
noncomputable def f_X9_countHolding_34 (v1 : Int32) (v3 : Int32) (s0 : Int32) (s1 : Int32) (σ : fhM) : Option ((Int32 × Int32) ⊕ (Int32)) :=
  some (.inl ((s1 + s0), (v3 + (1 : Int32))))
noncomputable def f_X9_countHolding_4 (v1 : Int32) (v2 : Int32) (v3 : Int32) (σ : fhM) : Option ((Int32 × Int32) ⊕ (Int32)) :=
  if (σ.1 39 12) ≤ v3 then
    some (.inr v2)
  else
    f_X9_countHolding_34 v1 v3 (if (f_X9_holdsIn (fcG σ 54 v3) v1 σ) = true then (1 : Int32) else (0 : Int32)) v2 σ
noncomputable def f_X9_countHolding (v1 : Int32) (σ : fhM) : Option (Int32) :=
  fhlp (fun x => f_X9_countHolding_4 v1 x.1 x.2 σ) ((0 : Int32), (0 : Int32))
noncomputable def f_X11_fact (v1 : Int32) (v2 : Int32) (σ : fhM) : Option (Int32) :=
  if (f_X11_isFact v1 σ) = true then
    if v2 = (0 : Int32) then
      some (f_X11_one (fhb (f_X9_holdsIn (σ.1 56 9) v1 σ)) σ)
    else
    if v2 = (1 : Int32) then
      Option.bind (f_X4_countAlike 52 ((1 : Int32) <<< (v1 &&& 31)) σ) fun q1 =>
      some q1
    else
    if v2 = (2 : Int32) then
      Option.bind (f_X9_countHolding v1 σ) fun q2 =>
      some q2
    else
    some (-1 : Int32)
  else
    some (-1 : Int32)
noncomputable def f_X11_left (v1 : Int32) (σ : fhM) : Int32 :=
  if v1 < 0 then
    (-1 : Int32)
  else
    if (σ.1 56 8) ≤ v1 then
      (-1 : Int32)
    else
      (fcG σ 72 v1)
noncomputable def f_X11_wears (v1 : Int32) (v2 : Int32) (σ : fhM) : Int32 :=
  if (f_X11_isGuest v2 σ) = true then
    if v1 < 0 then
      (-1 : Int32)
    else
      if v1 < (σ.1 39 11) then
        (f_X9_markOf v1 v2 σ)
      else
        (-1 : Int32)
  else
    (-1 : Int32)
noncomputable def f_X6_entry (v1 : Int32) (v2 : Int32) (σ : fhM) : Int32 :=
  (fcG σ 94 (((4 : Int32) * ((((σ.1 93 1) - (f_X6_toldCount σ)) + v1) &&& (511 : Int32))) + v2))
noncomputable def f_X11_kept (v1 : Int32) (v2 : Int32) (σ : fhM) : Int32 :=
  if v1 < 0 then
    (-1 : Int32)
  else
    if (f_X6_toldCount σ) ≤ v1 then
      (-1 : Int32)
    else
      if v2 < 0 then
        (-1 : Int32)
      else
        if v2 ≤ (3 : Int32) then
          (f_X6_entry v1 v2 σ)
        else
          (-1 : Int32)
noncomputable def f_X4_knowsOf_65 (v1 : Int32) (v2 : Int32) (v3 : Int32) (v4 : Int32) (v5 : Int32) (σ : fhM) : Option ((Int32 × Int32 × Int32) ⊕ (Int32)) :=
  some (.inl (v3, v4, (v5 + (1 : Int32))))
noncomputable def f_X4_knowsOf_8 (v1 : Int32) (v2 : Int32) (v3 : Int32) (v4 : Int32) (v5 : Int32) (σ : fhM) : Option ((Int32 × Int32 × Int32) ⊕ (Int32)) :=
  if (σ.1 56 8) ≤ v5 then
    if v3 = (1 : Int32) then
      some (.inr (1 : Int32))
    else
      if v4 = 0 then
        some (.inr (2 : Int32))
      else
        some (.inr (0 : Int32))
  else
    if (f_X4_isRowOf v1 (fcG σ 72 v5) σ) = true then
      fhlet (((fcG σ 74 (fcG σ 72 v5)) >>> (v2 &&& 31)) &&& (1 : Int32)) fun w7_1 =>
      f_X4_knowsOf_65 v1 v2 (v3 &&& w7_1) (v4 ||| w7_1) v5 σ
    else
      f_X4_knowsOf_65 v1 v2 v3 v4 v5 σ
noncomputable def f_X4_knowsOf (v1 : Int32) (v2 : Int32) (σ : fhM) : Option (Int32) :=
  fhlp (fun x => f_X4_knowsOf_8 v1 v2 x.1 x.2.1 x.2.2 σ) ((1 : Int32), (0 : Int32), (0 : Int32))
noncomputable def f_X11_knows (v1 : Int32) (v2 : Int32) (σ : fhM) : Option (Int32) :=
  if (f_X11_isPair v1 v2 σ) = true then
    Option.bind (f_X4_knowsOf v1 v2 σ) fun q1 =>
    some q1
  else
    some (-1 : Int32)
noncomputable def f_X4_deepen_217 (v1 : Int32) (σ : fhM) : Option ((Int32 × fhM) ⊕ (fhM)) :=
  if (σ.1 56 8) ≤ v1 then
    some (.inr σ)
  else
    some (.inl ((v1 + (1 : Int32)), (fcP σ 64 (fcG σ 72 v1) (fcG σ 66 (fcG σ 72 v1)))))
noncomputable def f_X4_deepen_168 (v1 : Int32) (v2 : Int32) (σ : fhM) : Option ((Int32 × fhM) ⊕ ((Int32 × fhM) ⊕ (fhM))) :=
  if (σ.1 56 8) ≤ v2 then
    some (.inr (.inl ((v1 + (1 : Int32)), σ)))
  else
    some (.inl ((v2 + (1 : Int32)), (fcP σ 48 (f_X9_viewOf (fcG σ 72 v2) v1 σ) (0 : Int32))))
noncomputable def f_X4_deepen_160 (v1 : Int32) (v2 : Int32) (σ : fhM) : Option ((Int32 × fhM) ⊕ ((Int32 × fhM) ⊕ (fhM))) :=
  some (.inl ((v2 + (1 : Int32)), σ))
noncomputable def f_X4_deepen_112 (v1 : Int32) (v2 : Int32) (σ : fhM) : Option ((Int32 × fhM) ⊕ ((Int32 × fhM) ⊕ (fhM))) :=
  if (σ.1 56 8) ≤ v2 then
    Option.map Sum.inr (fhlp (fun x => f_X4_deepen_168 v1 x.1 x.2) ((0 : Int32), σ))
  else
    if (fcG σ 48 (f_X9_viewOf (fcG σ 72 v2) v1 σ)) = 0 then
      f_X4_deepen_160 v1 v2 σ
    else
      f_X4_deepen_160 v1 v2 (fcP σ 66 (fcG σ 72 v2) (0 : Int32))
noncomputable def f_X4_deepen_104 (v1 : Int32) (v2 : Int32) (σ : fhM) : Option ((Int32 × fhM) ⊕ ((Int32 × fhM) ⊕ (fhM))) :=
  some (.inl ((v2 + (1 : Int32)), σ))
noncomputable def f_X4_deepen_56 (v1 : Int32) (v2 : Int32) (σ : fhM) : Option ((Int32 × fhM) ⊕ ((Int32 × fhM) ⊕ (fhM))) :=
  if (σ.1 56 8) ≤ v2 then
    Option.map Sum.inr (fhlp (fun x => f_X4_deepen_112 v1 x.1 x.2) ((0 : Int32), σ))
  else
    if (fcG σ 64 (fcG σ 72 v2)) = 0 then
      f_X4_deepen_104 v1 v2 (fcP σ 48 (f_X9_viewOf (fcG σ 72 v2) v1 σ) (1 : Int32))
    else
      f_X4_deepen_104 v1 v2 σ
noncomputable def f_X4_deepen_43 (v1 : Int32) (σ : fhM) : Option ((Int32 × fhM) ⊕ (fhM)) :=
  if (σ.1 39 9) ≤ v1 then
    Option.map Sum.inr (fhlp (fun x => f_X4_deepen_217 x.1 x.2) ((0 : Int32), σ))
  else
    fhlp (fun x => f_X4_deepen_56 v1 x.1 x.2) ((0 : Int32), σ)
noncomputable def f_X4_deepen_2 (v1 : Int32) (σ : fhM) : Option ((Int32 × fhM) ⊕ (fhM)) :=
  if (σ.1 56 8) ≤ v1 then
    Option.map Sum.inr (fhlp (fun x => f_X4_deepen_43 x.1 x.2) ((0 : Int32), σ))
  else
    some (.inl ((v1 + (1 : Int32)), (fcP σ 66 (fcG σ 72 v1) (fcG σ 64 (fcG σ 72 v1)))))
noncomputable def f_X4_deepen  (σ : fhM) : Option (fhM) :=
  fhlp (fun x => f_X4_deepen_2 x.1 x.2) ((0 : Int32), σ)
noncomputable def f_X4_depth_64 (v2 : Int32) (σ : fhM) : Option ((Int32 × fhM) ⊕ (Int32 × fhM)) :=
  if (9 : Int32) ≤ v2 then
    some (.inr ((9 : Int32), σ))
  else
    if (fcG σ 64 (σ.1 56 9)) = 0 then
      some (.inr (v2, σ))
    else
      Option.bind (f_X4_deepen σ) fun q1 =>
      some (.inl ((v2 + (1 : Int32)), q1))
noncomputable def f_X4_depth_53 (v1 : Int32) (v2 : Int32) (s0 : Int32) (s1 : Int32) (σ : fhM) : Option ((Int32 × fhM) ⊕ (Int32 × fhM)) :=
  some (.inl ((v2 + (1 : Int32)), (fcP σ 64 s1 s0)))
noncomputable def f_X4_depth_14 (v1 : Int32) (v2 : Int32) (σ : fhM) : Option ((Int32 × fhM) ⊕ (Int32 × fhM)) :=
  if (σ.1 56 8) ≤ v2 then
    Option.map Sum.inr (fhlp (fun x => f_X4_depth_64 x.1 x.2) ((0 : Int32), σ))
  else
    f_X4_depth_53 v1 v2 (if (fcG σ 74 (fcG σ 72 v2)) = v1 then (1 : Int32) else (0 : Int32)) (fcG σ 72 v2) σ
noncomputable def f_X4_depth  (σ : fhM) : Option (Int32 × fhM) :=
  fhlet (((1 : Int32) <<< ((σ.1 39 9) &&& 31)) - (1 : Int32)) fun w1_1 =>
  fhlp (fun x => f_X4_depth_14 w1_1 x.1 x.2) ((0 : Int32), σ)
noncomputable def f_X11_deep  (σ : fhM) : Option (Int32 × fhM) :=
  if (σ.1 0 8) = 0 then
    some ((-1 : Int32), σ)
  else
    Option.bind (f_X4_depth σ) fun q1 =>
    some (q1.1, q1.2)
noncomputable def f_X0_start_42 (v2 : Int32) (σ : fhM) : Option ((Int32 × fhM) ⊕ (fhM)) :=
  if (5 : Int32) ≤ v2 then
    some (.inr (fhI σ 57 5 (99 : Int32)))
  else
    some (.inl ((v2 + (1 : Int32)), (fcP σ 62 v2 (99 : Int32))))
noncomputable def f_X0_start_10 (v2 : Int32) (σ : fhM) : Option ((Int32 × fhM) ⊕ (fhM)) :=
  if (σ.1 57 2) ≤ v2 then
    Option.map Sum.inr (fhlp (fun x => f_X0_start_42 x.1 x.2) ((0 : Int32), σ))
  else
    some (.inl ((v2 + (1 : Int32)), (fcP σ 58 v2 (fcG σ 72 v2))))
noncomputable def f_X0_start  (σ : fhM) : Option (fhM) :=
  fhlp (fun x => f_X0_start_10 x.1 x.2) ((0 : Int32), (fhI σ 57 2 (σ.1 56 8)))
noncomputable def f_X0_shrinkTo_67 (v2 : Int32) (s0 : Bool) (σ : fhM) : Option (Bool × fhM) :=
  some (s0, (fhI σ 57 2 v2))
noncomputable def f_X0_shrinkTo_48 (v1 : Int32) (v2 : Int32) (v3 : Int32) (σ : fhM) : Option ((Int32 × Int32 × fhM) ⊕ (Bool × fhM)) :=
  some (.inl (v2, (v3 + (1 : Int32)), σ))
noncomputable def f_X0_shrinkTo_4 (v1 : Int32) (v2 : Int32) (v3 : Int32) (σ : fhM) : Option ((Int32 × Int32 × fhM) ⊕ (Bool × fhM)) :=
  if (σ.1 57 2) ≤ v3 then
    Option.map Sum.inr (f_X0_shrinkTo_67 v2 (if (σ.1 57 2) ≤ v2 then false else true) σ)
  else
    if (fcG σ 60 (fcG σ 58 v3)) = v1 then
      f_X0_shrinkTo_48 v1 (v2 + (1 : Int32)) v3 (fcP σ 58 v2 (fcG σ 58 v3))
    else
      f_X0_shrinkTo_48 v1 v2 v3 σ
noncomputable def f_X0_shrinkTo (v1 : Int32) (σ : fhM) : Option (Bool × fhM) :=
  fhlp (fun x => f_X0_shrinkTo_4 v1 x.1 x.2.1 x.2.2) ((0 : Int32), (0 : Int32), σ)
noncomputable def f_X0_prepare_132 (v2 : Int32) (σ : fhM) : Option ((Int32 × fhM) ⊕ (fhM)) :=
  some (.inl ((v2 + (1 : Int32)), σ))
noncomputable def f_X0_prepare_113 (v2 : Int32) (v3 : Int32) (v4 : Int32) (σ : fhM) : Option ((Int32 × fhM) ⊕ ((Int32 × fhM) ⊕ (fhM))) :=
  some (.inl ((v4 + (1 : Int32)), σ))
noncomputable def f_X0_prepare_70 (v2 : Int32) (v3 : Int32) (v4 : Int32) (σ : fhM) : Option ((Int32 × fhM) ⊕ ((Int32 × fhM) ⊕ (fhM))) :=
  if (σ.1 39 9) ≤ v4 then
    Option.bind (f_X0_shrinkTo v3 σ) fun q3 =>
    if q3.1 = true then
      Option.map Sum.inr (f_X0_prepare_132 v2 q3.2)
    else
      Option.map Sum.inr (f_X0_prepare_132 v2 (fhI q3.2 57 5 v2))
  else
    if ((v3 >>> (v4 &&& 31)) &&& (1 : Int32)) = 0 then
      f_X0_prepare_113 v2 v3 v4 σ
    else
      f_X0_prepare_113 v2 v3 v4 (fcP σ 62 v4 (f_J9_min_7cf53 (fcG σ 62 v4) v2 σ))
noncomputable def f_X0_prepare_20 (v2 : Int32) (σ : fhM) : Option ((Int32 × fhM) ⊕ (fhM)) :=
  if (20 : Int32) < v2 then
    some (.inr σ)
  else
    if (σ.1 57 5) = (99 : Int32) then
      Option.bind (f_X9_findKnowers 58 (0 : Int32) (σ.1 57 2) 60 σ) fun q2 =>
      fhlp (fun x => f_X0_prepare_70 v2 (fcG q2 60 (q2.1 56 9)) x.1 x.2) ((0 : Int32), q2)
    else
      some (.inr σ)
noncomputable def f_X0_prepare  (σ : fhM) : Option (fhM) :=
  if (σ.1 57 3) = 0 then
    Option.bind (f_X0_start (fhI σ 57 3 (1 : Int32))) fun q1 =>
    fhlp (fun x => f_X0_prepare_20 x.1 x.2) ((0 : Int32), q1)
  else
    some σ
noncomputable def f_X4_lookAhead  (σ : fhM) : Option (fhM) :=
  Option.bind (f_X0_prepare σ) fun q1 =>
  some q1
noncomputable def f_X11_later_43 (s0 : Int32) (σ : fhM) : Option (Int32 × fhM) :=
  some ((f_X11_one s0 σ), σ)
noncomputable def f_X11_later (v1 : Int32) (v2 : Int32) (σ : fhM) : Option (Int32 × fhM) :=
  if (f_X11_isGuest v1 σ) = true then
    if v2 < 0 then
      some ((-1 : Int32), σ)
    else
      if v2 ≤ (20 : Int32) then
        Option.bind (f_X4_lookAhead σ) fun q1 =>
        f_X11_later_43 (if v2 < (fcG q1 62 v1) then (0 : Int32) else (1 : Int32)) q1
      else
        some ((-1 : Int32), σ)
  else
    some ((-1 : Int32), σ)
noncomputable def f_X11_learns (v1 : Int32) (σ : fhM) : Option (Int32 × fhM) :=
  if (f_X11_isGuest v1 σ) = true then
    Option.bind (f_X4_lookAhead σ) fun q1 =>
    if (20 : Int32) < (fcG q1 62 v1) then
      some ((-1 : Int32), q1)
    else
      some ((fcG q1 62 v1), q1)
  else
    some ((-1 : Int32), σ)
noncomputable def f_X11_rests  (σ : fhM) : Option (Int32 × fhM) :=
  if (σ.1 0 8) = 0 then
    some ((-1 : Int32), σ)
  else
    Option.bind (f_X4_lookAhead σ) fun q1 =>
    if (20 : Int32) < (q1.1 57 5) then
      some ((-1 : Int32), q1)
    else
      some ((q1.1 57 5), q1)
noncomputable def f_X4_gatherDoubts_91 (v1 : Int32) (v2 : Nat) (v3 : Int32) (σ : fhM) : Option ((Int32 × fhM) ⊕ (fhM)) :=
  some (.inl ((v3 + (1 : Int32)), σ))
noncomputable def f_X4_gatherDoubts_6 (v1 : Int32) (v2 : Nat) (v3 : Int32) (σ : fhM) : Option ((Int32 × fhM) ⊕ (fhM)) :=
  if (σ.1 56 8) ≤ v3 then
    some (.inr σ)
  else
    if (f_X4_isRowOf v1 (fcG σ 72 v3) σ) = true then
      if (f_X9_markOf (fcG σ 72 v3) v1 σ) = (f_X9_markOf (σ.1 56 9) v1 σ) then
        f_X4_gatherDoubts_91 v1 v2 v3 σ
      else
        f_X4_gatherDoubts_91 v1 v2 v3 (fcP σ v2 ((fcG σ 52 (fcG σ 72 v3)) ^^^ (fcG σ 52 (σ.1 56 9))) (1 : Int32))
    else
      f_X4_gatherDoubts_91 v1 v2 v3 σ
noncomputable def f_X4_gatherDoubts (v1 : Int32) (v2 : Nat) (σ : fhM) : Option (fhM) :=
  fhlp (fun x => f_X4_gatherDoubts_6 v1 v2 x.1 x.2) ((0 : Int32), (fcW σ v2))
noncomputable def f_X4_isCleared_31 (v1 : Nat) (v2 : Int32) (v3 : Int32) (σ : fhM) : Option ((Int32) ⊕ (Bool)) :=
  some (.inl (v3 + (1 : Int32)))
noncomputable def f_X4_isCleared_2 (v1 : Nat) (v2 : Int32) (v3 : Int32) (σ : fhM) : Option ((Int32) ⊕ (Bool)) :=
  if ((1 : Int32) <<< ((σ.1 39 10) &&& 31)) ≤ v3 then
    some (.inr true)
  else
    if (fcG σ v1 v3) = 0 then
      f_X4_isCleared_31 v1 v2 v3 σ
    else
      if (v3 &&& v2) = 0 then
        some (.inr false)
      else
        f_X4_isCleared_31 v1 v2 v3 σ
noncomputable def f_X4_isCleared (v1 : Nat) (v2 : Int32) (σ : fhM) : Option (Bool) :=
  fhlp (fun x => f_X4_isCleared_2 v1 v2 x σ) (0 : Int32)
noncomputable def f_X4_fewestFacts_105 (v2 : Int32) (v3 : Int32) (v4 : Int32) (σ : fhM) : Option ((Int32 × Int32) ⊕ (Int32 × fhM)) :=
  some (.inl (v3, (v4 + (1 : Int32))))
noncomputable def f_X4_fewestFacts_102 (v2 : Int32) (v4 : Int32) (σ : fhM) : Option ((Int32 × Int32) ⊕ (Int32 × fhM)) :=
  f_X4_fewestFacts_105 v2 v4 v4 σ
noncomputable def f_X4_fewestFacts_64 (v2 : Int32) (v3 : Int32) (v4 : Int32) (s0 : Int32) (σ : fhM) : Option ((Int32 × Int32) ⊕ (Int32 × fhM)) :=
  if s0 = 0 then
    f_X4_fewestFacts_105 v2 v3 v4 σ
  else
    Option.bind (f_X4_isCleared 68 v4 σ) fun q3 =>
    if q3 = true then
      if v2 = (-1 : Int32) then
        f_X4_fewestFacts_102 v2 v4 σ
      else
        Option.bind (f_X4_isCleared 70 v4 σ) fun q4 =>
        if q4 = true then
          f_X4_fewestFacts_105 v2 v3 v4 σ
        else
          f_X4_fewestFacts_102 v2 v4 σ
    else
      f_X4_fewestFacts_105 v2 v3 v4 σ
noncomputable def f_X4_fewestFacts_59 (v2 : Int32) (v3 : Int32) (v4 : Int32) (σ : fhM) : Option ((Int32 × Int32) ⊕ (Int32 × fhM)) :=
  f_X4_fewestFacts_64 v2 v3 v4 (1 : Int32) σ
noncomputable def f_X4_fewestFacts_28 (v2 : Int32) (v3 : Int32) (v4 : Int32) (σ : fhM) : Option ((Int32 × Int32) ⊕ (Int32 × fhM)) :=
  if ((1 : Int32) <<< ((σ.1 39 10) &&& 31)) ≤ v4 then
    some (.inr (v3, σ))
  else
    if v3 = (-1 : Int32) then
      f_X4_fewestFacts_59 v2 v3 v4 σ
    else
      if (f_J6_bitCount_0f7a4 v3 σ) ≤ (f_J6_bitCount_0f7a4 v4 σ) then
        f_X4_fewestFacts_64 v2 v3 v4 (0 : Int32) σ
      else
        f_X4_fewestFacts_59 v2 v3 v4 σ
noncomputable def f_X4_fewestFacts_23 (v2 : Int32) (σ : fhM) : Option (Int32 × fhM) :=
  fhlp (fun x => f_X4_fewestFacts_28 v2 x.1 x.2 σ) ((-1 : Int32), (0 : Int32))
noncomputable def f_X4_fewestFacts (v1 : Int32) (v2 : Int32) (σ : fhM) : Option (Int32 × fhM) :=
  Option.bind (f_X4_gatherDoubts v1 68 σ) fun q1 =>
  if v2 = (-1 : Int32) then
    f_X4_fewestFacts_23 v2 q1
  else
    Option.bind (f_X4_gatherDoubts v2 70 q1) fun q2 =>
    f_X4_fewestFacts_23 v2 q2
noncomputable def f_X11_hints (v1 : Int32) (σ : fhM) : Option (Int32 × fhM) :=
  if (f_X11_isGuest v1 σ) = true then
    Option.bind (f_X4_fewestFacts v1 (-1 : Int32) σ) fun q1 =>
    some (q1.1, q1.2)
  else
    some ((-1 : Int32), σ)
noncomputable def f_X11_secret (v1 : Int32) (v2 : Int32) (σ : fhM) : Option (Int32 × fhM) :=
  if (f_X11_isPair v1 v2 σ) = true then
    Option.bind (f_X4_fewestFacts v1 v2 σ) fun q1 =>
    some (q1.1, q1.2)
  else
    some ((-1 : Int32), σ)
noncomputable def f_X4_bestSpeaker_46 (v1 : Int32) (v2 : Int32) (v3 : Int32) (σ : fhM) : Option ((Int32 × Int32 × Int32) ⊕ (Int32)) :=
  some (.inl (v1, v2, (v3 + (1 : Int32))))
noncomputable def f_X4_bestSpeaker_41 (v3 : Int32) (v4 : Int32) (σ : fhM) : Option ((Int32 × Int32 × Int32) ⊕ (Int32)) :=
  f_X4_bestSpeaker_46 v3 v4 v3 σ
noncomputable def f_X4_bestSpeaker_6 (v1 : Int32) (v2 : Int32) (v3 : Int32) (σ : fhM) : Option ((Int32 × Int32 × Int32) ⊕ (Int32)) :=
  if (σ.1 39 9) ≤ v3 then
    some (.inr v1)
  else
    Option.bind (f_X4_countAlike 74 ((1 : Int32) <<< (v3 &&& 31)) σ) fun q1 =>
    if v1 = (-1 : Int32) then
      f_X4_bestSpeaker_41 v3 q1 σ
    else
      if v2 ≤ q1 then
        f_X4_bestSpeaker_46 v1 v2 v3 σ
      else
        f_X4_bestSpeaker_41 v3 q1 σ
noncomputable def f_X4_bestSpeaker  (σ : fhM) : Option (Int32) :=
  fhlp (fun x => f_X4_bestSpeaker_6 x.1 x.2.1 x.2.2 σ) ((-1 : Int32), (0 : Int32), (0 : Int32))
noncomputable def f_X11_speaker (v1 : Int32) (σ : fhM) : Option (Int32) :=
  Option.bind (f_X4_bestSpeaker σ) fun q1 =>
  if q1 = (-1 : Int32) then
    some (-1 : Int32)
  else
    if v1 < 0 then
      some (-1 : Int32)
    else
      if v1 ≤ (1 : Int32) then
        if v1 = 0 then
          some q1
        else
          Option.bind (f_X4_countAlike 74 ((1 : Int32) <<< (q1 &&& 31)) σ) fun q2 =>
          some q2
      else
        some (-1 : Int32)
noncomputable def f_X1_start_40 (v1 : Int32) (σ : fhM) : Option ((Int32 × fhM) ⊕ (fhM)) :=
  if (5120 : Int32) ≤ v1 then
    if fhiC (σ.2.2 76 3) = true then
    some (.inr (fcP (fcP (fhI σ 76 5 (1 : Int32)) (σ.2.2 76 3) (0 : Int32) (0 : Int32)) (σ.2.2 76 3) (1 : Int32) ((fcP (fhI σ 76 5 (1 : Int32)) (σ.2.2 76 3) (0 : Int32) (0 : Int32)).1 39 12)))
    else none
  else
    some (.inl ((v1 + (1 : Int32)), (fcP σ 87 v1 (99 : Int32))))
noncomputable def f_X1_start_2 (v1 : Int32) (σ : fhM) : Option ((Int32 × fhM) ⊕ (fhM)) :=
  if (σ.1 39 12) ≤ v1 then
    Option.map Sum.inr (fhlp (fun x => f_X1_start_40 x.1 x.2) ((0 : Int32), σ))
  else
    if fhiC (σ.2.2 76 1) = true then
    some (.inl ((v1 + (1 : Int32)), (fcP σ (σ.2.2 76 1) v1 (fcG σ 54 v1))))
    else none
noncomputable def f_X1_start  (σ : fhM) : Option (fhM) :=
  fhlp (fun x => f_X1_start_2 x.1 x.2) ((0 : Int32), σ)
noncomputable def f_X1_noteKnowers_83 (v2 : Int32) (v3 : Int32) (v4 : Int32) (v5 : Int32) (v6 : Int32) (σ : fhM) : Option ((Int32 × fhM) ⊕ ((Int32 × fhM) ⊕ (fhM))) :=
  some (.inl ((v6 + (1 : Int32)), σ))
noncomputable def f_X1_noteKnowers_23 (v2 : Int32) (v3 : Int32) (v4 : Int32) (v5 : Int32) (v6 : Int32) (σ : fhM) : Option ((Int32 × fhM) ⊕ ((Int32 × fhM) ⊕ (fhM))) :=
  if (σ.1 39 9) ≤ v6 then
    some (.inr (.inl ((v4 + (1 : Int32)), σ)))
  else
    if (((fcG σ 85 v5) >>> (v6 &&& 31)) &&& (1 : Int32)) = 0 then
      f_X1_noteKnowers_83 v2 v3 v4 v5 v6 σ
    else
      f_X1_noteKnowers_83 v2 v3 v4 v5 v6 (fcP σ 87 ((v5 * (5 : Int32)) + v6) (f_J9_min_7cf53 (fcG σ 87 ((v5 * (5 : Int32)) + v6)) v3 σ))
noncomputable def f_X1_noteKnowers_3 (v2 : Int32) (v3 : Int32) (v4 : Int32) (σ : fhM) : Option ((Int32 × fhM) ⊕ (fhM)) :=
  if v2 ≤ v4 then
    some (.inr σ)
  else
    if fhiC (σ.2.2 76 1) = true then
    fhlp (fun x => f_X1_noteKnowers_23 v2 v3 v4 (fcG σ (σ.2.2 76 1) v4) x.1 x.2) ((0 : Int32), σ)
    else none
noncomputable def f_X1_noteKnowers (v1 : Int32) (v2 : Int32) (v3 : Int32) (σ : fhM) : Option (fhM) :=
  fhlp (fun x => f_X1_noteKnowers_3 v2 v3 x.1 x.2) (v1, σ)
noncomputable def f_X1_splitGroup_109 (v1 : Int32) (v2 : Int32) (v3 : Int32) (v4 : Int32) (σ : fhM) : Option ((Int32 × Int32 × fhM) ⊕ (fhM)) :=
  some (.inl (v3, (v4 + (1 : Int32)), σ))
noncomputable def f_X1_splitGroup_74 (v1 : Int32) (v2 : Int32) (v3 : Int32) (v4 : Int32) (v5 : Int32) (v6 : Int32) (σ : fhM) : Option ((Int32 × Int32 × fhM) ⊕ ((Int32 × Int32 × fhM) ⊕ (fhM))) :=
  some (.inl (v3, (v6 + (1 : Int32)), σ))
noncomputable def f_X1_splitGroup_30 (v1 : Int32) (v2 : Int32) (v3 : Int32) (v4 : Int32) (v5 : Int32) (v6 : Int32) (σ : fhM) : Option ((Int32 × Int32 × fhM) ⊕ ((Int32 × Int32 × fhM) ⊕ (fhM))) :=
  if v2 ≤ v6 then
    if v3 ≤ v5 then
      Option.map Sum.inr (f_X1_splitGroup_109 v1 v2 v3 v4 σ)
    else
      if fhiC (σ.2.2 76 4) = true then
      Option.map Sum.inr (f_X1_splitGroup_109 v1 v2 v3 v4 (fhI (fcP σ (σ.2.2 76 4) (σ.1 76 6) v5) 76 6 (((fcP σ (σ.2.2 76 4) (σ.1 76 6) v5).1 76 6) + (1 : Int32))))
      else none
  else
    if fhiC (σ.2.2 76 1) = true then
    if (fcG σ 85 (fcG σ (σ.2.2 76 1) v6)) = v4 then
      if fhiC (σ.2.2 76 2) = true then
      f_X1_splitGroup_74 v1 v2 (v3 + (1 : Int32)) v4 v5 v6 (fcP σ (σ.2.2 76 2) v3 (fcG σ (σ.2.2 76 1) v6))
      else none
    else
      f_X1_splitGroup_74 v1 v2 v3 v4 v5 v6 σ
    else none
noncomputable def f_X1_splitGroup_5 (v1 : Int32) (v2 : Int32) (v3 : Int32) (v4 : Int32) (σ : fhM) : Option ((Int32 × Int32 × fhM) ⊕ (fhM)) :=
  if ((1 : Int32) <<< ((σ.1 39 9) &&& 31)) ≤ v4 then
    some (.inr σ)
  else
    if v2 ≤ v3 then
      some (.inr σ)
    else
      fhlp (fun x => f_X1_splitGroup_30 v1 v2 x.1 v4 v3 x.2.1 x.2.2) (v3, v1, σ)
noncomputable def f_X1_splitGroup (v1 : Int32) (v2 : Int32) (σ : fhM) : Option (fhM) :=
  fhlp (fun x => f_X1_splitGroup_5 v1 v2 x.1 x.2.1 x.2.2) (v1, (0 : Int32), σ)
noncomputable def f_X1_splitGroups_7 (v1 : Int32) (v2 : Int32) (σ : fhM) : Option ((Int32 × fhM) ⊕ (fhM)) :=
  if (σ.1 76 5) ≤ v2 then
    if fhiC (σ.2.2 76 4) = true then
    some (.inr (fhI (fhR (fhR (fhR (fhR (fcP σ (σ.2.2 76 4) (σ.1 76 6) (σ.1 39 12)) 76 1 (σ.2.2 76 2)) 76 2 (σ.2.2 76 1)) 76 3 (σ.2.2 76 4)) 76 4 (σ.2.2 76 3)) 76 5 ((fcP σ (σ.2.2 76 4) (σ.1 76 6) (σ.1 39 12)).1 76 6)))
    else none
  else
    if fhiC (σ.2.2 76 3) = true then
    if fhiC (σ.2.2 76 1) = true then
    Option.bind (f_X9_findKnowers (σ.2.2 76 1) (fcG σ (σ.2.2 76 3) v2) (fcG σ (σ.2.2 76 3) (v2 + (1 : Int32))) 85 σ) fun q1 =>
    Option.bind (f_X1_noteKnowers (fcG σ (σ.2.2 76 3) v2) (fcG σ (σ.2.2 76 3) (v2 + (1 : Int32))) v1 q1) fun q2 =>
    Option.bind (f_X1_splitGroup (fcG σ (σ.2.2 76 3) v2) (fcG σ (σ.2.2 76 3) (v2 + (1 : Int32))) q2) fun q3 =>
    some (.inl ((v2 + (1 : Int32)), q3))
    else none
    else none
noncomputable def f_X1_splitGroups (v1 : Int32) (σ : fhM) : Option (fhM) :=
  fhlp (fun x => f_X1_splitGroups_7 v1 x.1 x.2) ((0 : Int32), (fhI σ 76 6 (0 : Int32)))
noncomputable def f_X1_prepare_54 (v2 : Int32) (s0 : Int32) (σ : fhM) : Option ((Int32 × Int32 × fhM) ⊕ (fhM)) :=
  some (.inl (s0, (v2 + (1 : Int32)), σ))
noncomputable def f_X1_prepare_21 (v1 : Int32) (v2 : Int32) (σ : fhM) : Option ((Int32 × Int32 × fhM) ⊕ (fhM)) :=
  if (20 : Int32) < v2 then
    some (.inr σ)
  else
    if v1 = 0 then
      some (.inr σ)
    else
      Option.bind (f_X1_splitGroups v2 σ) fun q2 =>
      f_X1_prepare_54 v2 (if (q2.1 76 5) ≤ (σ.1 76 5) then (0 : Int32) else (1 : Int32)) q2
noncomputable def f_X1_prepare  (σ : fhM) : Option (fhM) :=
  if (σ.1 76 9) = 0 then
    Option.bind (f_X1_start (fhI σ 76 9 (1 : Int32))) fun q1 =>
    fhlp (fun x => f_X1_prepare_21 x.1 x.2.1 x.2.2) ((1 : Int32), (0 : Int32), q1)
  else
    some σ
noncomputable def f_X1_firstKnown (v1 : Int32) (v2 : Int32) (σ : fhM) : Int32 :=
  (fcG σ 87 ((v1 * (5 : Int32)) + v2))
noncomputable def f_X1_slowestRow_67 (v1 : Int32) (v2 : Int32) (v3 : Int32) (v4 : Int32) (σ : fhM) : Option ((Int32 × Int32 × Int32) ⊕ (Int32)) :=
  some (.inl (v2, v3, (v4 + (1 : Int32))))
noncomputable def f_X1_slowestRow_7 (v1 : Int32) (v2 : Int32) (v3 : Int32) (v4 : Int32) (σ : fhM) : Option ((Int32 × Int32 × Int32) ⊕ (Int32)) :=
  if (σ.1 39 12) ≤ v4 then
    some (.inr v2)
  else
    f_X1_slowestRow_67 v1 (if (20 : Int32) < (f_X1_firstKnown (fcG σ 54 v4) v1 σ) then v2 else (if (f_X1_firstKnown (fcG σ 54 v4) v1 σ) ≤ v3 then v2 else (fcG σ 54 v4))) (if (20 : Int32) < (f_X1_firstKnown (fcG σ 54 v4) v1 σ) then v3 else (if (f_X1_firstKnown (fcG σ 54 v4) v1 σ) ≤ v3 then v3 else (f_X1_firstKnown (fcG σ 54 v4) v1 σ))) v4 σ
noncomputable def f_X1_slowestRow (v1 : Int32) (σ : fhM) : Option (Int32) :=
  fhlp (fun x => f_X1_slowestRow_7 v1 x.1 x.2.1 x.2.2 σ) ((-1 : Int32), (-1 : Int32), (0 : Int32))
noncomputable def f_X11_slowest (v1 : Int32) (v2 : Int32) (σ : fhM) : Option (Int32 × fhM) :=
  if (f_X11_isGuest v1 σ) = true then
    if v2 < 0 then
      some ((-1 : Int32), σ)
    else
      if v2 ≤ (1 : Int32) then
        Option.bind (f_X1_prepare σ) fun q1 =>
        Option.bind (f_X1_slowestRow v1 q1) fun q2 =>
        if q2 = (-1 : Int32) then
          some (q2, q1)
        else
          if v2 = 0 then
            some (q2, q1)
          else
            some ((f_X1_firstKnown q2 v1 q1), q1)
      else
        some ((-1 : Int32), σ)
  else
    some ((-1 : Int32), σ)
noncomputable def f_X1_countKnowing_44 (v1 : Int32) (v2 : Int32) (v4 : Int32) (s0 : Int32) (s1 : Int32) (σ : fhM) : Option ((Int32 × Int32) ⊕ (Int32)) :=
  some (.inl ((s1 + s0), (v4 + (1 : Int32))))
noncomputable def f_X1_countKnowing_5 (v1 : Int32) (v2 : Int32) (v3 : Int32) (v4 : Int32) (σ : fhM) : Option ((Int32 × Int32) ⊕ (Int32)) :=
  if (σ.1 39 12) ≤ v4 then
    some (.inr v3)
  else
    f_X1_countKnowing_44 v1 v2 v4 (if v2 < (f_X1_firstKnown (fcG σ 54 v4) v1 σ) then (0 : Int32) else (1 : Int32)) v3 σ
noncomputable def f_X1_countKnowing (v1 : Int32) (v2 : Int32) (σ : fhM) : Option (Int32) :=
  fhlp (fun x => f_X1_countKnowing_5 v1 v2 x.1 x.2 σ) ((0 : Int32), (0 : Int32))
noncomputable def f_X11_odds (v1 : Int32) (v2 : Int32) (σ : fhM) : Option (Int32 × fhM) :=
  if (f_X11_isGuest v1 σ) = true then
    if v2 < 0 then
      some ((-1 : Int32), σ)
    else
      if v2 ≤ (20 : Int32) then
        Option.bind (f_X1_prepare σ) fun q1 =>
        Option.bind (f_X1_countKnowing v1 v2 q1) fun q2 =>
        some (q2, q1)
      else
        some ((-1 : Int32), σ)
  else
    some ((-1 : Int32), σ)
noncomputable def f_X1_listen_85 (v1 : Nat) (v2 : Int32) (v3 : Int32) (v4 : Int32) (σ : fhM) : Option ((Int32 × fhM) ⊕ (Bool × fhM)) :=
  if v2 ≤ v4 then
    some (.inr (true, (fhI σ 76 13 v3)))
  else
    some (.inl ((v4 + (1 : Int32)), (fcP σ 89 v4 (fcG σ v1 v4))))
noncomputable def f_X1_listen_27 (v1 : Nat) (v2 : Int32) (v3 : Int32) (v4 : Int32) (σ : fhM) : Option ((Int32) ⊕ (Bool × fhM)) :=
  if v2 ≤ v4 then
    Option.map Sum.inr (fhlp (fun x => f_X1_listen_85 v1 v2 v3 x.1 x.2) ((0 : Int32), σ))
  else
    if (16 : Int32) ≤ (fcG σ v1 v4) then
      some (.inr (false, σ))
    else
      if (σ.1 39 9) ≤ (fcG σ v1 (v4 + (1 : Int32))) then
        some (.inr (false, σ))
      else
        if (fcG σ v1 (v4 + (2 : Int32))) ≤ (1 : Int32) then
          some (.inl (v4 + (3 : Int32)))
        else
          some (.inr (false, σ))
noncomputable def f_X1_listen (v1 : Nat) (v2 : Int32) (σ : fhM) : Option (Bool × fhM) :=
  if ((v2 / (3 : Int32)) * (3 : Int32)) = v2 then
    if (v2 / (3 : Int32)) < (1 : Int32) then
      some (false, σ)
    else
      if (v2 / (3 : Int32)) ≤ (16 : Int32) then
        fhlp (fun x => f_X1_listen_27 v1 v2 (v2 / (3 : Int32)) x σ) (0 : Int32)
      else
        some (false, σ)
  else
    some (false, σ)
noncomputable def f_X11_hear  (σ : fhM) : Option (Int32 × fhM) :=
  fhlet (f_X11_takeTape σ) fun q1 =>
  Option.bind (f_X1_listen 1 q1.1 q1.2) fun q2 =>
  if q2.1 = true then
    some ((q2.2.1 76 13), q2.2)
  else
    fhlet (f_X11_refuse (1 : Int32) q2.2) fun q3 =>
    some (q3.1, q3.2)
noncomputable def f_X1_isFitting_64 (v1 : Int32) (v2 : Int32) (s0 : Int32) (s1 : Int32) (σ : fhM) : Option ((Int32) ⊕ (Bool)) :=
  if s1 = s0 then
    some (.inl (v2 + (3 : Int32)))
  else
    some (.inr false)
noncomputable def f_X1_isFitting_43 (v1 : Int32) (v2 : Int32) (s0 : Int32) (σ : fhM) : Option ((Int32) ⊕ (Bool)) :=
  f_X1_isFitting_64 v1 v2 (if (fcG σ 89 (v2 + (2 : Int32))) = (1 : Int32) then (1 : Int32) else (0 : Int32)) s0 σ
noncomputable def f_X1_isFitting_2 (v1 : Int32) (v2 : Int32) (σ : fhM) : Option ((Int32) ⊕ (Bool)) :=
  if ((3 : Int32) * (σ.1 76 13)) ≤ v2 then
    some (.inr true)
  else
    f_X1_isFitting_43 v1 v2 (if (fcG σ 89 v2) < (f_X1_firstKnown v1 (fcG σ 89 (v2 + (1 : Int32))) σ) then (0 : Int32) else (1 : Int32)) σ
noncomputable def f_X1_isFitting (v1 : Int32) (σ : fhM) : Option (Bool) :=
  fhlp (fun x => f_X1_isFitting_2 v1 x σ) (0 : Int32)
noncomputable def f_X1_findFitting_64 (v1 : Int32) (σ : fhM) : Option ((Int32 × fhM) ⊕ (fhM)) :=
  some (.inl ((v1 + (1 : Int32)), σ))
noncomputable def f_X1_findFitting_11 (v1 : Int32) (σ : fhM) : Option ((Int32 × fhM) ⊕ (fhM)) :=
  if (σ.1 39 12) ≤ v1 then
    some (.inr σ)
  else
    Option.bind (f_X1_isFitting (fcG σ 54 v1) σ) fun q2 =>
    if q2 = true then
      f_X1_findFitting_64 v1 (fhI (fcP σ 91 (σ.1 76 12) (fcG σ 54 v1)) 76 12 ((σ.1 76 12) + (1 : Int32)))
    else
      f_X1_findFitting_64 v1 σ
noncomputable def f_X1_findFitting  (σ : fhM) : Option (fhM) :=
  Option.bind (f_X1_prepare σ) fun q1 =>
  fhlp (fun x => f_X1_findFitting_11 x.1 x.2) ((0 : Int32), (fhI q1 76 12 (0 : Int32)))
noncomputable def f_X11_fits (v1 : Int32) (σ : fhM) : Option (Int32 × fhM) :=
  if (σ.1 0 8) = 0 then
    some ((-1 : Int32), σ)
  else
    if (-1 : Int32) ≤ v1 then
      Option.bind (f_X1_findFitting σ) fun q1 =>
      if v1 = (-1 : Int32) then
        some ((q1.1 76 12), q1)
      else
        if (q1.1 76 12) ≤ v1 then
          some ((-1 : Int32), q1)
        else
          some ((fcG q1 91 v1), q1)
    else
      some ((-1 : Int32), σ)
noncomputable def f_X1_marksFitting_4 (v1 : Int32) (v2 : Int32) (v3 : Int32) (σ : fhM) : Option ((Int32 × Int32) ⊕ (Int32)) :=
  if (σ.1 76 12) ≤ v3 then
    some (.inr v2)
  else
    fhlet (v2 ||| ((1 : Int32) <<< ((f_X9_markOf (fcG σ 91 v3) v1 σ) &&& 31))) fun w2_1 =>
    some (.inl (w2_1, (v3 + (1 : Int32))))
noncomputable def f_X1_marksFitting (v1 : Int32) (σ : fhM) : Option (Int32) :=
  fhlp (fun x => f_X1_marksFitting_4 v1 x.1 x.2 σ) ((0 : Int32), (0 : Int32))
noncomputable def f_X11_could (v1 : Int32) (σ : fhM) : Option (Int32 × fhM) :=
  if (f_X11_isGuest v1 σ) = true then
    Option.bind (f_X1_findFitting σ) fun q1 =>
    Option.bind (f_X1_marksFitting v1 q1) fun q2 =>
    some (q2, q1)
  else
    some ((-1 : Int32), σ)
noncomputable def f_X1_mostLeft_38 (v1 : Int32) (v2 : Int32) (v4 : Int32) (s0 : Int32) (s1 : Int32) (σ : fhM) : Option ((Int32 × Int32) ⊕ (Int32)) :=
  some (.inl ((s1 + s0), (v4 + (1 : Int32))))
noncomputable def f_X1_mostLeft_5 (v1 : Int32) (v2 : Int32) (v3 : Int32) (v4 : Int32) (σ : fhM) : Option ((Int32 × Int32) ⊕ (Int32)) :=
  if (σ.1 76 12) ≤ v4 then
    some (.inr (f_J9_max_7cf53 v3 ((σ.1 76 12) - v3) σ))
  else
    f_X1_mostLeft_38 v1 v2 v4 (if v1 < (f_X1_firstKnown (fcG σ 91 v4) v2 σ) then (0 : Int32) else (1 : Int32)) v3 σ
noncomputable def f_X1_mostLeft (v1 : Int32) (v2 : Int32) (σ : fhM) : Option (Int32) :=
  fhlp (fun x => f_X1_mostLeft_5 v1 v2 x.1 x.2 σ) ((0 : Int32), (0 : Int32))
noncomputable def f_X1_bestTelling_54 (v1 : Int32) (v2 : Int32) (v3 : Int32) (v4 : Int32) (σ : fhM) : Option ((Int32 × Int32 × Int32) ⊕ ((Int32 × Int32 × Int32) ⊕ (Int32))) :=
  some (.inl (v1, v2, (v4 + (1 : Int32))))
noncomputable def f_X1_bestTelling_17 (v1 : Int32) (v2 : Int32) (v3 : Int32) (v4 : Int32) (σ : fhM) : Option ((Int32 × Int32 × Int32) ⊕ ((Int32 × Int32 × Int32) ⊕ (Int32))) :=
  if (σ.1 39 9) ≤ v4 then
    some (.inr (.inl (v1, v2, (v3 + (1 : Int32)))))
  else
    Option.bind (f_X1_mostLeft v3 v4 σ) fun q1 =>
    f_X1_bestTelling_54 (if v2 ≤ q1 then v1 else ((v3 * (5 : Int32)) + v4)) (if v2 ≤ q1 then v2 else q1) v3 v4 σ
noncomputable def f_X1_bestTelling_8 (v1 : Int32) (v2 : Int32) (v3 : Int32) (σ : fhM) : Option ((Int32 × Int32 × Int32) ⊕ (Int32)) :=
  if (16 : Int32) ≤ v3 then
    some (.inr v1)
  else
    fhlp (fun x => f_X1_bestTelling_17 x.1 x.2.1 v3 x.2.2 σ) (v1, v2, (0 : Int32))
noncomputable def f_X1_bestTelling  (σ : fhM) : Option (Int32) :=
  fhlp (fun x => f_X1_bestTelling_8 x.1 x.2.1 x.2.2 σ) ((0 : Int32), (1025 : Int32), (0 : Int32))
noncomputable def f_X11_tells (v1 : Int32) (σ : fhM) : Option (Int32 × fhM) :=
  if (σ.1 39 9) = 0 then
    some ((-1 : Int32), σ)
  else
    if v1 < 0 then
      some ((-1 : Int32), σ)
    else
      if v1 ≤ (2 : Int32) then
        Option.bind (f_X1_findFitting σ) fun q1 =>
        if (q1.1 76 12) = 0 then
          some ((-1 : Int32), q1)
        else
          Option.bind (f_X1_bestTelling q1) fun q2 =>
          if v1 = (0 : Int32) then
            some ((q2 / (5 : Int32)), q1)
          else
          if v1 = (1 : Int32) then
            some ((fhrem q2 (5 : Int32)), q1)
          else
          Option.bind (f_X1_mostLeft (q2 / (5 : Int32)) (fhrem q2 (5 : Int32)) q1) fun q3 =>
          some (q3, q1)
      else
        some ((-1 : Int32), σ)
noncomputable def f_X6_save_75 (v2 : Int32) (v3 : Int32) (σ : fhM) : Option ((Int32 × fhM) ⊕ (fhM)) :=
  if (σ.1 56 8) ≤ v3 then
    some (.inr (fhI (fhI σ 93 3 (fhrem ((σ.1 93 3) + (1 : Int32)) (20 : Int32))) 93 4 (f_J9_min_7cf53 ((σ.1 93 4) + (1 : Int32)) (20 : Int32) (fhI σ 93 3 (fhrem ((σ.1 93 3) + (1 : Int32)) (20 : Int32))))))
  else
    fhlet ((v2 + (3 : Int32)) + ((fcG σ 72 v3) >>> ((5 : Int32) &&& 31))) fun w5_1 =>
    some (.inl ((v3 + (1 : Int32)), (fcP σ 96 w5_1 ((fcG σ 96 w5_1) ||| ((1 : Int32) <<< (((fcG σ 72 v3) &&& (31 : Int32)) &&& 31))))))
noncomputable def f_X6_save_10 (v2 : Int32) (v3 : Int32) (σ : fhM) : Option ((Int32 × fhM) ⊕ (fhM)) :=
  if (35 : Int32) ≤ v3 then
    Option.map Sum.inr (fhlp (fun x => f_X6_save_75 v2 x.1 x.2) ((0 : Int32), (fcP (fcP (fcP σ 96 v2 (σ.1 56 9)) 96 (v2 + (1 : Int32)) (σ.1 56 10)) 96 (v2 + (2 : Int32)) (σ.1 93 1))))
  else
    some (.inl ((v3 + (1 : Int32)), (fcP σ 96 (v2 + v3) (0 : Int32))))
noncomputable def f_X6_save  (σ : fhM) : Option (fhM) :=
  fhlp (fun x => f_X6_save_10 ((σ.1 93 3) * (35 : Int32)) x.1 x.2) ((0 : Int32), σ)
noncomputable def f_X4_keepAlike_63 (v1 : Nat) (v2 : Int32) (v3 : Int32) (v4 : Int32) (v5 : Int32) (σ : fhM) : Option ((Int32 × Int32 × fhM) ⊕ (fhM)) :=
  some (.inl (v4, (v5 + (1 : Int32)), σ))
noncomputable def f_X4_keepAlike_17 (v1 : Nat) (v2 : Int32) (v3 : Int32) (v4 : Int32) (v5 : Int32) (σ : fhM) : Option ((Int32 × Int32 × fhM) ⊕ (fhM)) :=
  if (σ.1 56 8) ≤ v5 then
    Option.bind (f_X4_settle (fhI σ 56 8 v4)) fun q1 =>
    some (.inr q1)
  else
    if ((fcG σ v1 (fcG σ 72 v5)) &&& v2) = v3 then
      f_X4_keepAlike_63 v1 v2 v3 (v4 + (1 : Int32)) v5 (fcP σ 72 v4 (fcG σ 72 v5))
    else
      f_X4_keepAlike_63 v1 v2 v3 v4 v5 σ
noncomputable def f_X4_keepAlike (v1 : Nat) (v2 : Int32) (σ : fhM) : Option (fhM) :=
  fhlp (fun x => f_X4_keepAlike_17 v1 v2 ((fcG σ v1 (σ.1 56 9)) &&& v2) x.1 x.2.1 x.2.2) ((0 : Int32), (0 : Int32), σ)
noncomputable def f_X6_write (v1 : Int32) (v2 : Int32) (v3 : Int32) (v4 : Int32) (σ : fhM) : fhM :=
  (fhI (fcP (fcP (fcP (fcP σ 94 ((4 : Int32) * ((σ.1 93 1) &&& (511 : Int32))) v1) 94 (((4 : Int32) * ((σ.1 93 1) &&& (511 : Int32))) + (1 : Int32)) v2) 94 (((4 : Int32) * ((σ.1 93 1) &&& (511 : Int32))) + (2 : Int32)) v3) 94 (((4 : Int32) * ((σ.1 93 1) &&& (511 : Int32))) + (3 : Int32)) v4) 93 1 ((σ.1 93 1) + (1 : Int32)))
noncomputable def f_X11_playRound_28 (s0 : Int32) (σ : fhM) : Option (Int32 × fhM) :=
  Option.bind (f_X4_keepAlike 74 s0 σ) fun q1 =>
  fhlet (f_X6_write (0 : Int32) (0 : Int32) ((f_X4_knowers σ) &&& s0) (q1.1 56 8) (fhI q1 56 10 ((q1.1 56 10) + (1 : Int32)))) fun q2 =>
  some (((f_X4_knowers σ) &&& s0), q2)
noncomputable def f_X11_playRound (v1 : Int32) (σ : fhM) : Option (Int32 × fhM) :=
  fhlet (((1 : Int32) <<< ((σ.1 39 9) &&& 31)) - (1 : Int32)) fun w2_1 =>
  f_X11_playRound_28 (if v1 = (-1 : Int32) then w2_1 else (w2_1 &&& (((1 : Int32) <<< (v1 &&& 31)) ^^^ (-1 : Int32)))) σ
noncomputable def f_X11_round_20  (σ : fhM) : Option (Int32 × fhM) :=
  fhlet (f_X11_refuse (3 : Int32) σ) fun q3 =>
  some (q3.1, q3.2)
noncomputable def f_X11_round  (σ : fhM) : Option (Int32 × fhM) :=
  if (σ.1 0 8) = 0 then
    f_X11_round_20 σ
  else
    if (σ.1 56 10) < (999 : Int32) then
      Option.bind (f_X6_save σ) fun q1 =>
      Option.bind (f_X11_playRound (-1 : Int32) q1) fun q2 =>
      some (q2.1, q2.2)
    else
      f_X11_round_20 σ
noncomputable def f_X11_says (v1 : Int32) (σ : fhM) : Option (Int32 × fhM) :=
  if (f_X11_isGuest v1 σ) = true then
    Option.bind (f_X6_save σ) fun q1 =>
    Option.bind (f_X4_keepAlike 74 ((1 : Int32) <<< (v1 &&& 31)) q1) fun q2 =>
    fhlet (f_X6_write (1 : Int32) v1 (f_X11_one (fhb (f_X4_isKnower v1 q1)) q1) (q2.1 56 8) q2) fun q3 =>
    some ((f_X11_one (fhb (f_X4_isKnower v1 q1)) q1), q3)
  else
    fhlet (f_X11_refuse (2 : Int32) σ) fun q4 =>
    some (q4.1, q4.2)
noncomputable def f_X11_tell (v1 : Int32) (σ : fhM) : Option (Int32 × fhM) :=
  if (f_X11_isFact v1 σ) = true then
    Option.bind (f_X6_save σ) fun q1 =>
    fhlet (f_X11_one (fhb (f_X9_holdsIn (q1.1 56 9) v1 q1)) q1) fun w2_1 =>
    Option.bind (f_X4_keepAlike 52 ((1 : Int32) <<< (v1 &&& 31)) q1) fun q2 =>
    fhlet (f_X6_write (2 : Int32) v1 w2_1 (q2.1 56 8) q2) fun q3 =>
    some (w2_1, q3)
  else
    fhlet (f_X11_refuse (2 : Int32) σ) fun q4 =>
    some (q4.1, q4.2)
noncomputable def f_X9_withMark (v1 : Int32) (v2 : Int32) (v3 : Int32) (σ : fhM) : Int32 :=
  if v3 < 0 then
    (-1 : Int32)
  else
    if v3 < (σ.1 39 5) then
      (v1 + ((v3 - (f_X9_markOf v1 v2 σ)) * (fcG σ 40 v2)))
    else
      (-1 : Int32)
noncomputable def f_X9_isAllowed (v1 : Int32) (σ : fhM) : Bool :=
  if (fcG σ 46 v1) = 0 then
    false
  else
    true
noncomputable def f_X11_wear_56  (σ : fhM) : Option (Bool × fhM) :=
  fhlet (f_X11_refuse (2 : Int32) σ) fun q3 =>
  some (false, q3.2)
noncomputable def f_X11_wear_28 (s0 : Int32) (σ : fhM) : Option (Bool × fhM) :=
  if s0 = (-1 : Int32) then
    f_X11_wear_56 σ
  else
    if s0 = (σ.1 56 9) then
      f_X11_wear_56 σ
    else
      if (f_X9_isAllowed s0 σ) = true then
        Option.bind (f_X6_save σ) fun q1 =>
        Option.bind (f_X4_begin s0 q1) fun q2 =>
        some (true, q2)
      else
        f_X11_wear_56 σ
noncomputable def f_X11_wear (v1 : Int32) (v2 : Int32) (σ : fhM) : Option (Bool × fhM) :=
  f_X11_wear_28 (if (f_X11_isGuest v1 σ) = true then (f_X9_withMark (σ.1 56 9) v1 v2 σ) else (-1 : Int32)) σ
noncomputable def f_X11_draw (v1 : Int32) (σ : fhM) : Option (Int32 × fhM) :=
  if v1 ≤ 0 then
    some ((0 : Int32), (fhI σ 0 16 ((((1103515245 : Int32) * (σ.1 0 16)) + (12345 : Int32)) &&& (2147483647 : Int32))))
  else
    if (fhnz v1 && true) = true then
    some ((fhrem (((((1103515245 : Int32) * (σ.1 0 16)) + (12345 : Int32)) &&& (2147483647 : Int32)) / (64 : Int32)) v1), (fhI σ 0 16 ((((1103515245 : Int32) * (σ.1 0 16)) + (12345 : Int32)) &&& (2147483647 : Int32))))
    else none
noncomputable def f_X11_chance_33  (σ : fhM) : Option (Int32 × fhM) :=
  fhlet (f_X11_refuse (3 : Int32) σ) fun q2 =>
  some (q2.1, q2.2)
noncomputable def f_X11_chance_104 (v1 : Int32) (v2 : Int32) (v3 : Int32) (v4 : Int32) (σ : fhM) : Option ((Int32 × Int32 × fhM) ⊕ (Int32 × fhM)) :=
  Option.bind (f_X11_playRound v4 σ) fun q5 =>
  some (.inl (v2, (v3 + (1 : Int32)), q5.2))
noncomputable def f_X11_chance_54 (v1 : Int32) (v2 : Int32) (v3 : Int32) (σ : fhM) : Option ((Int32 × Int32 × fhM) ⊕ (Int32 × fhM)) :=
  if v1 ≤ v3 then
    some (.inr (v2, σ))
  else
    Option.bind (f_X11_draw (100 : Int32) σ) fun q3 =>
    if fhiP (q3.2.2.2 0 6) = true then
    if (q3.2.1 (q3.2.2.2 0 6) 13) ≤ q3.1 then
      f_X11_chance_104 v1 v2 v3 (-1 : Int32) q3.2
    else
      if (q3.2.1 39 9) ≤ 0 then
        f_X11_chance_104 v1 v2 v3 (-1 : Int32) q3.2
      else
        Option.bind (f_X11_draw (q3.2.1 39 9) q3.2) fun q4 =>
        f_X11_chance_104 v1 (v2 + (1 : Int32)) v3 q4.1 q4.2
    else none
noncomputable def f_X11_chance (v1 : Int32) (σ : fhM) : Option (Int32 × fhM) :=
  if (σ.1 0 8) = 0 then
    f_X11_chance_33 σ
  else
    if v1 < (1 : Int32) then
      f_X11_chance_33 σ
    else
      if (20 : Int32) < v1 then
        f_X11_chance_33 σ
      else
        if ((σ.1 56 10) + v1) ≤ (999 : Int32) then
          Option.bind (f_X6_save σ) fun q1 =>
          fhlp (fun x => f_X11_chance_54 v1 x.1 x.2.1 x.2.2) ((0 : Int32), (0 : Int32), q1)
        else
          f_X11_chance_33 σ
noncomputable def f_X11_deal  (σ : fhM) : Option (Int32 × fhM) :=
  if (σ.1 0 8) = 0 then
    fhlet (f_X11_refuse (3 : Int32) σ) fun q4 =>
    some (q4.1, q4.2)
  else
    Option.bind (f_X6_save σ) fun q1 =>
    Option.bind (f_X11_draw (q1.1 39 12) q1) fun q2 =>
    Option.bind (f_X4_begin (fcG q2.2 54 q2.1) q2.2) fun q3 =>
    some ((q3.1 56 9), q3)
noncomputable def f_X6_restore_147 (v2 : Int32) (v3 : Int32) (σ : fhM) : Option ((Int32 × fhM) ⊕ (Bool × fhM)) :=
  some (.inl ((v3 + (1 : Int32)), σ))
noncomputable def f_X6_restore_90 (v2 : Int32) (v3 : Int32) (σ : fhM) : Option ((Int32 × fhM) ⊕ (Bool × fhM)) :=
  if (σ.1 39 11) ≤ v3 then
    Option.bind (f_X4_settle σ) fun q1 =>
    some (.inr (true, q1))
  else
    if (((fcG σ 96 ((v2 + (3 : Int32)) + (v3 >>> ((5 : Int32) &&& 31)))) >>> ((v3 &&& (31 : Int32)) &&& 31)) &&& (1 : Int32)) = 0 then
      f_X6_restore_147 v2 v3 σ
    else
      f_X6_restore_147 v2 v3 (fhI (fcP σ 72 (σ.1 56 8) v3) 56 8 ((σ.1 56 8) + (1 : Int32)))
noncomputable def f_X6_restore  (σ : fhM) : Option (Bool × fhM) :=
  if (σ.1 93 4) = 0 then
    some (false, σ)
  else
    fhlet ((fhrem (((σ.1 93 3) + (20 : Int32)) - (1 : Int32)) (20 : Int32)) * (35 : Int32)) fun w2_1 =>
    fhlp (fun x => f_X6_restore_90 w2_1 x.1 x.2) ((0 : Int32), (fhI (fhI (fhI (fhI (fhI (fhI σ 93 4 ((σ.1 93 4) - (1 : Int32))) 93 3 (fhrem (((σ.1 93 3) + (20 : Int32)) - (1 : Int32)) (20 : Int32))) 56 9 (fcG (fhI (fhI σ 93 4 ((σ.1 93 4) - (1 : Int32))) 93 3 (fhrem (((σ.1 93 3) + (20 : Int32)) - (1 : Int32)) (20 : Int32))) 96 w2_1)) 56 10 (fcG (fhI (fhI (fhI σ 93 4 ((σ.1 93 4) - (1 : Int32))) 93 3 (fhrem (((σ.1 93 3) + (20 : Int32)) - (1 : Int32)) (20 : Int32))) 56 9 (fcG (fhI (fhI σ 93 4 ((σ.1 93 4) - (1 : Int32))) 93 3 (fhrem (((σ.1 93 3) + (20 : Int32)) - (1 : Int32)) (20 : Int32))) 96 w2_1)) 96 (w2_1 + (1 : Int32)))) 93 1 (fcG (fhI (fhI (fhI (fhI σ 93 4 ((σ.1 93 4) - (1 : Int32))) 93 3 (fhrem (((σ.1 93 3) + (20 : Int32)) - (1 : Int32)) (20 : Int32))) 56 9 (fcG (fhI (fhI σ 93 4 ((σ.1 93 4) - (1 : Int32))) 93 3 (fhrem (((σ.1 93 3) + (20 : Int32)) - (1 : Int32)) (20 : Int32))) 96 w2_1)) 56 10 (fcG (fhI (fhI (fhI σ 93 4 ((σ.1 93 4) - (1 : Int32))) 93 3 (fhrem (((σ.1 93 3) + (20 : Int32)) - (1 : Int32)) (20 : Int32))) 56 9 (fcG (fhI (fhI σ 93 4 ((σ.1 93 4) - (1 : Int32))) 93 3 (fhrem (((σ.1 93 3) + (20 : Int32)) - (1 : Int32)) (20 : Int32))) 96 w2_1)) 96 (w2_1 + (1 : Int32)))) 96 (w2_1 + (2 : Int32)))) 56 8 (0 : Int32)))
noncomputable def f_X11_undo  (σ : fhM) : Option (Bool × fhM) :=
  Option.bind (f_X6_restore σ) fun q1 =>
  if q1.1 = true then
    some (true, q1.2)
  else
    fhlet (f_X11_refuse (4 : Int32) q1.2) fun q2 =>
    some (false, q2.2)
noncomputable def f_X11_seed (v1 : Int32) (σ : fhM) : Bool × fhM :=
  if 0 ≤ v1 then
    (true, (fhI σ 0 16 v1))
  else
    fhlet (f_X11_refuse (5 : Int32) σ) fun q1 =>
    (false, q1.2)
noncomputable def f_X8_isEnd  (σ : fhM) : Bool :=
  if (σ.1 3 4) = 0 then
    true
  else
    false
noncomputable def f_X10_fillFromGuest_109 (v3 : Int32) (v4 : Int32) (v5 : Int32) (σ : fhM) : Option ((Int32 × fhM) ⊕ (fhM)) :=
  if (5 : Int32) ≤ v5 then
    some (.inr σ)
  else
    some (.inl ((v5 + (1 : Int32)), (fcP (fcP σ 11 ((20 : Int32) + v5) ((v3 >>> (v5 &&& 31)) &&& (1 : Int32))) 11 ((25 : Int32) + v5) ((v4 >>> (v5 &&& 31)) &&& (1 : Int32)))))
noncomputable def f_X10_fillFromGuest_71 (v2 : Int32) (s0 : Int32) (s1 : Int32) (σ : fhM) : Option (fhM) :=
  fhlet (fcG (fcP (fcP σ 11 s1 s0) 11 (14 : Int32) (σ.1 56 10)) 50 v2) fun w3_1 =>
  Option.bind (f_X4_marksHeld v2 (fcP (fcP σ 11 s1 s0) 11 (14 : Int32) (σ.1 56 10))) fun q2 =>
  fhlp (fun x => f_X10_fillFromGuest_109 w3_1 q2 x.1 x.2) ((0 : Int32), (fcP (fcP σ 11 s1 s0) 11 (14 : Int32) (σ.1 56 10)))
noncomputable def f_X10_fillFromGuest (v2 : Int32) (σ : fhM) : Option (fhM) :=
  Option.bind (f_X4_countRowsOf v2 (fcP (fcP (fcW σ 11) 11 (10 : Int32) v2) 11 (11 : Int32) (f_X9_markOf (σ.1 56 9) v2 (fcP (fcW σ 11) 11 (10 : Int32) v2)))) fun q1 =>
  f_X10_fillFromGuest_71 v2 (if (f_X4_isKnower v2 (fcP (fcP (fcP (fcW σ 11) 11 (10 : Int32) v2) 11 (11 : Int32) (f_X9_markOf (σ.1 56 9) v2 (fcP (fcW σ 11) 11 (10 : Int32) v2))) 11 (12 : Int32) q1)) = true then (1 : Int32) else (0 : Int32)) (13 : Int32) (fcP (fcP (fcP (fcW σ 11) 11 (10 : Int32) v2) 11 (11 : Int32) (f_X9_markOf (σ.1 56 9) v2 (fcP (fcW σ 11) 11 (10 : Int32) v2))) 11 (12 : Int32) q1)
noncomputable def f_X11_answer_132 (v1 : Int32) (v2 : Int32) (v3 : Int32) (v4 : Int32) (v5 : Int64) (v7 : Int32) (v9 : Int32) (s0 : Int32) (σ : fhM) : Option ((Int32 × Int32 × Int32 × Int64 × Int32 × Int32 × Int32 × fhM) ⊕ (Int64 × fhM)) :=
  some (.inl (v2, v3, v4, v5, v7, s0, (v9 + (1 : Int32)), σ))
noncomputable def f_X11_answer_113 (v1 : Int32) (v2 : Int32) (v3 : Int32) (v4 : Int32) (v5 : Int64) (v8 : Int32) (v9 : Int32) (v10 : Int32) (s0 : Int32) (σ : fhM) : Option ((Int32 × Int32 × Int32 × Int64 × Int32 × Int32 × Int32 × fhM) ⊕ (Int64 × fhM)) :=
  f_X11_answer_132 v1 v2 v3 v4 v5 s0 v9 (if v9 = 0 then v10 else (f_J9_min_7cf53 v8 v10 σ)) σ
noncomputable def f_X11_answer_88 (v1 : Int32) (v2 : Int32) (v3 : Int32) (v4 : Int32) (v5 : Int64) (v7 : Int32) (v8 : Int32) (v9 : Int32) (v10 : Int32) (σ : fhM) : Option ((Int32 × Int32 × Int32 × Int64 × Int32 × Int32 × Int32 × fhM) ⊕ (Int64 × fhM)) :=
  f_X11_answer_113 v1 v2 v3 v4 (v5 + (Int32.toInt64 v10)) v8 v9 v10 (if v9 = 0 then v10 else (f_J9_max_7cf53 v7 v10 σ)) σ
noncomputable def f_X11_answer_81 (v1 : Int32) (v4 : Int32) (v5 : Int64) (v7 : Int32) (v8 : Int32) (v9 : Int32) (v10 : Int32) (s0 : Int32) (σ : fhM) : Option ((Int32 × Int32 × Int32 × Int64 × Int32 × Int32 × Int32 × fhM) ⊕ (Int64 × fhM)) :=
  f_X11_answer_88 v1 s0 v9 (v4 + (1 : Int32)) v5 v7 v8 v9 v10 σ
noncomputable def f_X11_answer_19 (v1 : Int32) (v2 : Int32) (v3 : Int32) (v4 : Int32) (v5 : Int64) (v7 : Int32) (v8 : Int32) (v9 : Int32) (σ : fhM) : Option ((Int32 × Int32 × Int32 × Int64 × Int32 × Int32 × Int32 × fhM) ⊕ (Int64 × fhM)) :=
  if (σ.1 39 9) ≤ v9 then
    if v1 = (26 : Int32) then
      some (.inr ((Int32.toInt64 v2), σ))
    else
    if v1 = (27 : Int32) then
      some (.inr ((Int32.toInt64 v3), σ))
    else
    if v1 = (28 : Int32) then
      some (.inr ((Int32.toInt64 v4), σ))
    else
    if v1 = (29 : Int32) then
      some (.inr (v5, σ))
    else
    if v1 = (30 : Int32) then
      some (.inr ((Int32.toInt64 v7), σ))
    else
    some (.inr ((Int32.toInt64 v8), σ))
  else
    Option.bind (f_X10_fillFromGuest v9 σ) fun q1 =>
    Option.bind (f_X10_value 6 (0 : Int32) (q1.1 6 1) q1) fun q2 =>
    if q2.1 = 0 then
      f_X11_answer_88 v1 v2 v3 v4 v5 v7 v8 v9 q2.1 q2.2
    else
      f_X11_answer_81 v1 v4 v5 v7 v8 v9 q2.1 (if v2 = (-1 : Int32) then v9 else v2) q2.2
noncomputable def f_X11_answer (v1 : Int32) (σ : fhM) : Option (Int64 × fhM) :=
  fhlp (fun x => f_X11_answer_19 v1 x.1 x.2.1 x.2.2.1 x.2.2.2.1 x.2.2.2.2.1 x.2.2.2.2.2.1 x.2.2.2.2.2.2.1 x.2.2.2.2.2.2.2) ((-1 : Int32), (-1 : Int32), (0 : Int32), (0 : Int64), (0 : Int32), (0 : Int32), (0 : Int32), σ)
noncomputable def f_X11_pictureSize  (σ : fhM) : Int32 :=
  ((((2 : Int32) + (σ.1 39 9)) + (((σ.1 39 11) + (7 : Int32)) / (8 : Int32))) + (1 : Int32))
noncomputable def f_X11_checkByte_6 (v0 : Nat) (v1 : Int32) (v2 : Int32) (v3 : Int32) (σ : fhM) : Option ((Int32 × Int32) ⊕ (Int32)) :=
  if v1 ≤ v3 then
    some (.inr v2)
  else
    fhlet (fhrem (((3 : Int32) * v2) + (fcG σ v0 v3)) (251 : Int32)) fun w2_1 =>
    some (.inl (w2_1, (v3 + (1 : Int32))))
noncomputable def f_X11_checkByte (v0 : Nat) (v1 : Int32) (σ : fhM) : Option (Int32) :=
  fhlp (fun x => f_X11_checkByte_6 v0 v1 x.1 x.2 σ) ((197 : Int32), (0 : Int32))
noncomputable def f_X11_image_100 (v1 : Int32) (v2 : Int32) (σ : fhM) : Option ((Int32 × fhM) ⊕ (Int32 × fhM)) :=
  if (σ.1 56 8) ≤ v2 then
    Option.bind (f_X11_checkByte 98 ((f_X11_pictureSize σ) - (1 : Int32)) (fhI σ 0 14 (f_X11_pictureSize σ))) fun q1 =>
    some (.inr ((f_X11_pictureSize σ), (fcP (fhI σ 0 14 (f_X11_pictureSize σ)) 98 ((f_X11_pictureSize σ) - (1 : Int32)) q1)))
  else
    fhlet (v1 + ((fcG σ 72 v2) >>> ((3 : Int32) &&& 31))) fun w4_1 =>
    some (.inl ((v2 + (1 : Int32)), (fcP σ 98 w4_1 ((fcG σ 98 w4_1) ||| ((1 : Int32) <<< (((fcG σ 72 v2) &&& (7 : Int32)) &&& 31))))))
noncomputable def f_X11_image_46 (v1 : Int32) (σ : fhM) : Option ((Int32 × fhM) ⊕ (Int32 × fhM)) :=
  if (σ.1 39 9) ≤ v1 then
    Option.map Sum.inr (fhlp (fun x => f_X11_image_100 ((2 : Int32) + (σ.1 39 9)) x.1 x.2) ((0 : Int32), σ))
  else
    some (.inl ((v1 + (1 : Int32)), (fcP σ 98 ((2 : Int32) + v1) (f_X9_markOf (σ.1 56 9) v1 σ))))
noncomputable def f_X11_image  (σ : fhM) : Option (Int32 × fhM) :=
  fhlp (fun x => f_X11_image_46 x.1 x.2) ((0 : Int32), (fcP (fcP (fcW σ 98) 98 (0 : Int32) ((σ.1 56 10) >>> ((8 : Int32) &&& 31))) 98 (1 : Int32) ((σ.1 56 10) &&& (255 : Int32))))
noncomputable def f_X11_octet (v1 : Int32) (σ : fhM) : Int32 :=
  if v1 < 0 then
    (-1 : Int32)
  else
    if (σ.1 0 14) ≤ v1 then
      (-1 : Int32)
    else
      (fcG σ 98 v1)
noncomputable def f_X11_rowOfPicture_68 (v2 : Int32) (v3 : Int32) (σ : fhM) : Option ((Int32 × Int32) ⊕ (Int32)) :=
  if (σ.1 39 9) ≤ v3 then
    some (.inr v2)
  else
    if v2 = (-1 : Int32) then
      some (.inr v2)
    else
      fhlet (f_X9_withMark v2 v3 (fcG σ 1 ((2 : Int32) + v3)) σ) fun w2_1 =>
      some (.inl (w2_1, (v3 + (1 : Int32))))
noncomputable def f_X11_rowOfPicture_65 (s0 : Int32) (σ : fhM) : Option (Int32) :=
  fhlp (fun x => f_X11_rowOfPicture_68 x.1 x.2 σ) (s0, (0 : Int32))
noncomputable def f_X11_rowOfPicture (v1 : Int32) (σ : fhM) : Option (Int32) :=
  if v1 = (f_X11_pictureSize σ) then
    Option.bind (f_X11_checkByte 1 (v1 - (1 : Int32)) σ) fun q1 =>
    if (fcG σ 1 (v1 - (1 : Int32))) = q1 then
      f_X11_rowOfPicture_65 (if (999 : Int32) < (((fcG σ 1 (0 : Int32)) * (256 : Int32)) + (fcG σ 1 (1 : Int32))) then (-1 : Int32) else (0 : Int32)) σ
    else
      some (-1 : Int32)
  else
    some (-1 : Int32)
noncomputable def f_X11_tapeBit (v1 : Int32) (σ : fhM) : Bool :=
  if (((fcG σ 1 (((2 : Int32) + (σ.1 39 9)) + (v1 >>> ((3 : Int32) &&& 31)))) >>> ((v1 &&& (7 : Int32)) &&& 31)) &&& (1 : Int32)) = 0 then
    false
  else
    true
noncomputable def f_X11_isLeftFitting_45 (v1 : Int32) (v2 : Int32) (v3 : Int32) (σ : fhM) : Option ((Int32) ⊕ (Bool)) :=
  some (.inl (v3 + (1 : Int32)))
noncomputable def f_X11_isLeftFitting_19 (v1 : Int32) (v2 : Int32) (v3 : Int32) (σ : fhM) : Option ((Int32) ⊕ (Bool)) :=
  if v2 ≤ v3 then
    some (.inr (f_X11_tapeBit v1 σ))
  else
    if (f_X11_tapeBit v3 σ) = true then
      if (f_X9_isAllowed v3 σ) = true then
        f_X11_isLeftFitting_45 v1 v2 v3 σ
      else
        some (.inr false)
    else
      f_X11_isLeftFitting_45 v1 v2 v3 σ
noncomputable def f_X11_isLeftFitting (v1 : Int32) (σ : fhM) : Option (Bool) :=
  fhlet ((((σ.1 39 11) + (7 : Int32)) / (8 : Int32)) * (8 : Int32)) fun w2_1 =>
  fhlp (fun x => f_X11_isLeftFitting_19 v1 w2_1 x σ) (0 : Int32)
noncomputable def f_X11_on_35  (σ : fhM) : Option (Bool × fhM) :=
  fhlet (f_X11_refuse (5 : Int32) σ) fun q4 =>
  some (false, q4.2)
noncomputable def f_X11_on_103 (v2 : Int32) (v3 : Int32) (σ : fhM) : Option ((Int32 × fhM) ⊕ (Bool × fhM)) :=
  some (.inl ((v3 + (1 : Int32)), σ))
noncomputable def f_X11_on_53 (v2 : Int32) (v3 : Int32) (σ : fhM) : Option ((Int32 × fhM) ⊕ (Bool × fhM)) :=
  if (σ.1 39 11) ≤ v3 then
    Option.bind (f_X4_settle (fhI (fhI σ 56 10 (((fcG σ 1 (0 : Int32)) * (256 : Int32)) + (fcG σ 1 (1 : Int32)))) 56 9 v2)) fun q5 =>
    fhlet (f_X6_wipe q5) fun q6 =>
    some (.inr (true, q6))
  else
    if (f_X11_tapeBit v3 σ) = true then
      f_X11_on_103 v2 v3 (fhI (fcP σ 72 (σ.1 56 8) v3) 56 8 ((σ.1 56 8) + (1 : Int32)))
    else
      f_X11_on_103 v2 v3 σ
noncomputable def f_X11_on_21 (s0 : Int32) (σ : fhM) : Option (Bool × fhM) :=
  if s0 = (-1 : Int32) then
    f_X11_on_35 σ
  else
    Option.bind (f_X11_isLeftFitting s0 σ) fun q3 =>
    if q3 = true then
      fhlp (fun x => f_X11_on_53 s0 x.1 x.2) ((0 : Int32), (fhI σ 56 8 (0 : Int32)))
    else
      f_X11_on_35 σ
noncomputable def f_X11_on  (σ : fhM) : Option (Bool × fhM) :=
  fhlet (f_X11_takeTape σ) fun q1 =>
  if (q1.2.1 0 8) = 0 then
    f_X11_on_21 (-1 : Int32) q1.2
  else
    Option.bind (f_X11_rowOfPicture q1.1 q1.2) fun q2 =>
    f_X11_on_21 q2 q1.2
noncomputable def f_X11_status (v1 : Int32) (σ : fhM) : Int32 :=
  if v1 < 0 then
    (-1 : Int32)
  else
    if (6 : Int32) ≤ v1 then
      (-1 : Int32)
    else
      (fcG σ 100 v1)
noncomputable def f_X3_add (v0 : Nat) (v1 : Int32) (v2 : Int32) (σ : fhM) : fhM :=
  (fhI (fcP σ (v0 + 1) (σ.1 v0 1) (v1 ||| (v2 <<< ((4 : Int32) &&& 31)))) v0 1 (f_J9_min_7cf53 (((fcP σ (v0 + 1) (σ.1 v0 1) (v1 ||| (v2 <<< ((4 : Int32) &&& 31)))).1 v0 1) + (1 : Int32)) (1600 : Int32) (fcP σ (v0 + 1) (σ.1 v0 1) (v1 ||| (v2 <<< ((4 : Int32) &&& 31))))))
noncomputable def f_X5_signHere_49  (σ : fhM) : Int32 × fhM :=
  ((12 : Int32), σ)
noncomputable def f_X5_signHere  (σ : fhM) : Int32 × fhM :=
  if (f_X8_isSign (60 : Int32) σ) = true then
    ((10 : Int32), σ)
  else
    if (f_X8_isSign (62 : Int32) σ) = true then
      ((11 : Int32), σ)
    else
      if (f_X8_isSign (61 : Int32) σ) = true then
        f_X5_signHere_49 σ
      else
        fhlet (f_X8_failHere σ) fun q1 =>
        f_X5_signHere_49 q1
noncomputable def f_X5_goDeeper  (σ : fhM) : Bool × fhM :=
  if (σ.1 9 4) < (6 : Int32) then
    fhlet (f_X8_advance (fhI σ 9 4 ((σ.1 9 4) + (1 : Int32)))) fun q1 =>
    (true, q1)
  else
    fhlet (f_X8_fail (4 : Int32) (σ.1 3 8) σ) fun q2 =>
    (false, q2)
noncomputable def f_X5_isLookingWord_31  (σ : fhM) : Bool :=
  true
noncomputable def f_X5_isLookingWord  (σ : fhM) : Bool :=
  if (σ.1 9 3) = 0 then
    (f_X8_isWord (12 : Int32) σ)
  else
    if (f_X8_isWord (18 : Int32) σ) = true then
      f_X5_isLookingWord_31 σ
    else
      if (f_X8_isWord (19 : Int32) σ) = true then
        f_X5_isLookingWord_31 σ
      else
        false
noncomputable def f_X8_lettersHere  (σ : fhM) : Int32 :=
  if (σ.1 3 4) = (1 : Int32) then
    (σ.1 3 6)
  else
    (0 : Int32)
noncomputable def f_X5_leaf_83 (v2 : Int32) (σ : fhM) : Option (fhM) :=
  if v2 = (-1 : Int32) then
    fhlet (f_X8_failHere σ) fun q4 =>
    some q4
  else
    if fhiK (σ.2.2 9 1) = true then
    fhlet (f_X3_add (σ.2.2 9 1) (1 : Int32) v2 σ) fun q2 =>
    fhlet (f_X8_advance q2) fun q3 =>
    some q3
    else none
noncomputable def f_X5_leaf_61 (v2 : Int32) (σ : fhM) : Option (fhM) :=
  if (σ.2.2 9 2) = 0 then
    f_X5_leaf_83 v2 σ
  else
    if fhiP (σ.2.2 9 2) = true then
    Option.bind (f_X7_guestNamed (σ.2.2 9 2) (f_X8_lettersHere σ) σ) fun q1 =>
    f_X5_leaf_83 q1 σ
    else none
noncomputable def f_X5_leaf_37 (s0 : Int32) (σ : fhM) : Option (fhM) :=
  f_X5_leaf_83 s0 σ
noncomputable def f_X5_leaf_36  (σ : fhM) : Option (fhM) :=
  f_X5_leaf_37 (-1 : Int32) σ
noncomputable def f_X5_leaf  (σ : fhM) : Option (fhM) :=
  if (σ.1 9 3) = 0 then
    if (f_X8_wordHere σ) < (8 : Int32) then
      f_X5_leaf_61 (-1 : Int32) σ
    else
      if (11 : Int32) < (f_X8_wordHere σ) then
        f_X5_leaf_61 (-1 : Int32) σ
      else
        f_X5_leaf_83 ((-3 : Int32) + (f_X8_wordHere σ)) σ
  else
    if (f_X8_wordHere σ) < (13 : Int32) then
      f_X5_leaf_36 σ
    else
      if (17 : Int32) < (f_X8_wordHere σ) then
        f_X5_leaf_36 σ
      else
        f_X5_leaf_37 ((-3 : Int32) + (f_X8_wordHere σ)) σ
noncomputable def f_X8_isNumber  (σ : fhM) : Bool :=
  if (σ.1 3 4) = (2 : Int32) then
    true
  else
    false
noncomputable def f_X5_test_6 (r : Nat → Int32 → fhM → Option fhM) (v1 : Int32) (σ : fhM) : Option ((Int32 × fhM) ⊕ (fhM)) :=
  if (1600 : Int32) ≤ v1 then
    some (.inr σ)
  else
    if (f_X8_isWord (20 : Int32) σ) = true then
      fhlet (f_X8_advance σ) fun q2 =>
      Option.bind (r 1 0 q2) fun q3 =>
      if fhiK (q3.2.2 9 1) = true then
      fhlet (f_X3_add (q3.2.2 9 1) (14 : Int32) (0 : Int32) q3) fun q4 =>
      some (.inl ((v1 + (1 : Int32)), q4))
      else none
    else
      some (.inr σ)
noncomputable def f_X5_test (r : Nat → Int32 → fhM → Option fhM)  (σ : fhM) : Option (fhM) :=
  Option.bind (r 1 0 σ) fun q1 =>
  fhlp (fun x => f_X5_test_6 r x.1 x.2) ((0 : Int32), q1)
noncomputable def f_X5_both_6 (r : Nat → Int32 → fhM → Option fhM) (v1 : Int32) (σ : fhM) : Option ((Int32 × fhM) ⊕ (fhM)) :=
  if (1600 : Int32) ≤ v1 then
    some (.inr σ)
  else
    if (f_X8_isWord (21 : Int32) σ) = true then
      fhlet (f_X8_advance σ) fun q2 =>
      Option.bind (r 2 0 q2) fun q3 =>
      if fhiK (q3.2.2 9 1) = true then
      fhlet (f_X3_add (q3.2.2 9 1) (13 : Int32) (0 : Int32) q3) fun q4 =>
      some (.inl ((v1 + (1 : Int32)), q4))
      else none
    else
      some (.inr σ)
noncomputable def f_X5_both (r : Nat → Int32 → fhM → Option fhM)  (σ : fhM) : Option (fhM) :=
  Option.bind (r 2 0 σ) fun q1 =>
  fhlp (fun x => f_X5_both_6 r x.1 x.2) ((0 : Int32), q1)
noncomputable def f_X5_claim (r : Nat → Int32 → fhM → Option fhM)  (σ : fhM) : Option (fhM) :=
  if (f_X8_isSign (91 : Int32) σ) = true then
    fhlet (f_X5_goDeeper σ) fun q11 =>
    if q11.1 = true then
      Option.bind (r 0 0 q11.2) fun q12 =>
      fhlet (f_X8_takeSign (93 : Int32) q12) fun q13 =>
      some (fhI q13 9 4 ((q13.1 9 4) - (1 : Int32)))
    else
      some q11.2
  else
    if (f_X8_isWord (22 : Int32) σ) = true then
      fhlet (f_X5_goDeeper σ) fun q8 =>
      if q8.1 = true then
        Option.bind (r 2 0 q8.2) fun q9 =>
        if fhiK (q9.2.2 9 1) = true then
        fhlet (f_X3_add (q9.2.2 9 1) (3 : Int32) (0 : Int32) q9) fun q10 =>
        some (fhI q10 9 4 ((q10.1 9 4) - (1 : Int32)))
        else none
      else
        some q8.2
    else
      if (f_X8_isWord (23 : Int32) σ) = true then
        if fhiK (σ.2.2 9 1) = true then
        fhlet (f_X3_add (σ.2.2 9 1) (0 : Int32) (1 : Int32) σ) fun q6 =>
        fhlet (f_X8_advance q6) fun q7 =>
        some q7
        else none
      else
        Option.bind (r 3 0 σ) fun q1 =>
        fhlet (f_X5_signHere q1) fun q2 =>
        fhlet (f_X8_advance q2.2) fun q3 =>
        Option.bind (r 3 0 q3) fun q4 =>
        if fhiK (q4.2.2 9 1) = true then
        fhlet (f_X3_add (q4.2.2 9 1) q2.1 (0 : Int32) q4) fun q5 =>
        some q5
        else none
noncomputable def f_X5_sum_54 (r : Nat → Int32 → fhM → Option fhM) (v1 : Int32) (s0 : Int32) (σ : fhM) : Option ((Int32 × fhM) ⊕ (fhM)) :=
  fhlet (f_X8_advance σ) fun q2 =>
  Option.bind (r 4 0 q2) fun q3 =>
  if fhiK (q3.2.2 9 1) = true then
  fhlet (f_X3_add (q3.2.2 9 1) s0 (0 : Int32) q3) fun q4 =>
  some (.inl ((v1 + (1 : Int32)), q4))
  else none
noncomputable def f_X5_sum_37 (r : Nat → Int32 → fhM → Option fhM) (v1 : Int32) (σ : fhM) : Option ((Int32 × fhM) ⊕ (fhM)) :=
  f_X5_sum_54 r v1 (if (f_X8_isSign (43 : Int32) σ) = true then (4 : Int32) else (5 : Int32)) σ
noncomputable def f_X5_sum_6 (r : Nat → Int32 → fhM → Option fhM) (v1 : Int32) (σ : fhM) : Option ((Int32 × fhM) ⊕ (fhM)) :=
  if (1600 : Int32) ≤ v1 then
    some (.inr σ)
  else
    if (f_X8_isSign (43 : Int32) σ) = true then
      f_X5_sum_37 r v1 σ
    else
      if (f_X8_isSign (45 : Int32) σ) = true then
        f_X5_sum_37 r v1 σ
      else
        some (.inr σ)
noncomputable def f_X5_sum (r : Nat → Int32 → fhM → Option fhM)  (σ : fhM) : Option (fhM) :=
  Option.bind (r 4 0 σ) fun q1 =>
  fhlp (fun x => f_X5_sum_6 r x.1 x.2) ((0 : Int32), q1)
noncomputable def f_X5_product_56 (r : Nat → Int32 → fhM → Option fhM) (v1 : Int32) (s0 : Int32) (σ : fhM) : Option ((Int32 × fhM) ⊕ (fhM)) :=
  fhlet (f_X8_advance σ) fun q2 =>
  Option.bind (r 5 0 q2) fun q3 =>
  if fhiK (q3.2.2 9 1) = true then
  fhlet (f_X3_add (q3.2.2 9 1) s0 (0 : Int32) q3) fun q4 =>
  some (.inl ((v1 + (1 : Int32)), q4))
  else none
noncomputable def f_X5_product_37 (r : Nat → Int32 → fhM → Option fhM) (v1 : Int32) (σ : fhM) : Option ((Int32 × fhM) ⊕ (fhM)) :=
  f_X5_product_56 r v1 (if (f_X8_isSign (42 : Int32) σ) = true then (6 : Int32) else (7 : Int32)) σ
noncomputable def f_X5_product_6 (r : Nat → Int32 → fhM → Option fhM) (v1 : Int32) (σ : fhM) : Option ((Int32 × fhM) ⊕ (fhM)) :=
  if (1600 : Int32) ≤ v1 then
    some (.inr σ)
  else
    if (f_X8_isSign (42 : Int32) σ) = true then
      f_X5_product_37 r v1 σ
    else
      if (f_X8_isSign (47 : Int32) σ) = true then
        f_X5_product_37 r v1 σ
      else
        some (.inr σ)
noncomputable def f_X5_product (r : Nat → Int32 → fhM → Option fhM)  (σ : fhM) : Option (fhM) :=
  Option.bind (r 5 0 σ) fun q1 =>
  fhlp (fun x => f_X5_product_6 r x.1 x.2) ((0 : Int32), q1)
noncomputable def f_X5_part_117 (r : Nat → Int32 → fhM → Option fhM) (s0 : Int32) (σ : fhM) : Option (fhM) :=
  Option.bind (r 6 s0 σ) fun q8 =>
  some q8
noncomputable def f_X5_part_97 (r : Nat → Int32 → fhM → Option fhM)  (σ : fhM) : Option (fhM) :=
  f_X5_part_117 r (if (f_X8_isWord (24 : Int32) σ) = true then (8 : Int32) else (9 : Int32)) σ
noncomputable def f_X5_part (r : Nat → Int32 → fhM → Option fhM)  (σ : fhM) : Option (fhM) :=
  if (f_X8_isNumber σ) = true then
    fhlet (f_X8_takeNumber σ) fun q6 =>
    if fhiK (σ.2.2 9 1) = true then
    fhlet (f_X3_add (σ.2.2 9 1) (0 : Int32) q6.1 q6.2) fun q7 =>
    some q7
    else none
  else
    if (f_X8_isSign (40 : Int32) σ) = true then
      fhlet (f_X5_goDeeper σ) fun q3 =>
      if q3.1 = true then
        Option.bind (r 3 0 q3.2) fun q4 =>
        fhlet (f_X8_takeSign (41 : Int32) q4) fun q5 =>
        some (fhI q5 9 4 ((q5.1 9 4) - (1 : Int32)))
      else
        some q3.2
    else
      if (f_X8_isWord (24 : Int32) σ) = true then
        f_X5_part_97 r σ
      else
        if (f_X8_isWord (25 : Int32) σ) = true then
          f_X5_part_97 r σ
        else
          if (f_X5_isLookingWord σ) = true then
            Option.bind (r 7 0 σ) fun q2 =>
            some q2
          else
            Option.bind (f_X5_leaf σ) fun q1 =>
            some q1
noncomputable def f_X5_pair (r : Nat → Int32 → fhM → Option fhM) (v1 : Int32) (σ : fhM) : Option (fhM) :=
  fhlet (f_X8_advance σ) fun q1 =>
  if (f_X8_isSign (40 : Int32) q1) = true then
    fhlet (f_X5_goDeeper q1) fun q2 =>
    if q2.1 = true then
      Option.bind (r 3 0 q2.2) fun q3 =>
      fhlet (f_X8_takeSign (44 : Int32) q3) fun q4 =>
      Option.bind (r 3 0 q4) fun q5 =>
      fhlet (f_X8_takeSign (41 : Int32) q5) fun q6 =>
      if fhiK (q6.2.2 9 1) = true then
      fhlet (f_X3_add (q6.2.2 9 1) v1 (0 : Int32) q6) fun q7 =>
      some (fhI q7 9 4 ((q7.1 9 4) - (1 : Int32)))
      else none
    else
      some q2.2
  else
    fhlet (f_X8_failHere q1) fun q8 =>
    some q8
noncomputable def f_X5_lookup_36 (r : Nat → Int32 → fhM → Option fhM) (v1 : Int32) (σ : fhM) : Option (fhM) :=
  fhlet (f_X5_goDeeper σ) fun q1 =>
  if q1.1 = true then
    Option.bind (r 5 0 q1.2) fun q2 =>
    if fhiK (q2.2.2 9 1) = true then
    fhlet (f_X3_add (q2.2.2 9 1) (2 : Int32) v1 q2) fun q3 =>
    some (fhI q3 9 4 ((q3.1 9 4) - (1 : Int32)))
    else none
  else
    some q1.2
noncomputable def f_X5_lookup (r : Nat → Int32 → fhM → Option fhM)  (σ : fhM) : Option (fhM) :=
  f_X5_lookup_36 r (if (f_X8_isWord (18 : Int32) σ) = true then (20 : Int32) else (if (f_X8_isWord (19 : Int32) σ) = true then (25 : Int32) else (15 : Int32))) σ
noncomputable def fgR : Nat → Nat → Int32 → fhM → Option fhM
  | 0, _, _, _ => none
  | n + 1, w, a, σ => match w with
    | 0 => f_X5_test (fgR n) σ
    | 1 => f_X5_both (fgR n) σ
    | 2 => f_X5_claim (fgR n) σ
    | 3 => f_X5_sum (fgR n) σ
    | 4 => f_X5_product (fgR n) σ
    | 5 => f_X5_part (fgR n) σ
    | 6 => f_X5_pair (fgR n) a σ
    | _ + 7 => f_X5_lookup (fgR n) σ
noncomputable def f_X5_testN (σ : fhM) : Option fhM := fgR 64 0 0 σ
noncomputable def f_X5_bothN (σ : fhM) : Option fhM := fgR 64 1 0 σ
noncomputable def f_X5_claimN (σ : fhM) : Option fhM := fgR 64 2 0 σ
noncomputable def f_X5_sumN (σ : fhM) : Option fhM := fgR 64 3 0 σ
noncomputable def f_X5_productN (σ : fhM) : Option fhM := fgR 64 4 0 σ
noncomputable def f_X5_partN (σ : fhM) : Option fhM := fgR 64 5 0 σ
noncomputable def f_X5_pairN (a : Int32) (σ : fhM) : Option fhM := fgR 64 6 a σ
noncomputable def f_X5_lookupN (σ : fhM) : Option fhM := fgR 64 7 0 σ
noncomputable def f_X5_readTest (v1 : Nat) (v2 : Nat) (σ : fhM) : Option (fhM) :=
  Option.bind (f_X5_begin v1 v2 (0 : Int32) σ) fun q1 =>
  Option.bind (f_X5_testN q1) fun q2 =>
  some q2
noncomputable def f_X7_readStatement_133 (v0 : Nat) (σ : fhM) : Option (fhM) :=
  fhlet (f_X8_takeSign (59 : Int32) σ) fun q17 =>
  some (fhI q17 v0 8 ((q17.1 v0 8) + (1 : Int32)))
noncomputable def f_X7_readStatement (v0 : Nat) (σ : fhM) : Option (fhM) :=
  fhlet (f_X7_statementWord v0 σ) fun q1 =>
  fhlet (f_X8_advance q1.2) fun q2 =>
  if q1.1 = (0 : Int32) then
    fhlet (f_X8_takeNumberWithin (2 : Int32) (4 : Int32) q2) fun q3 =>
    f_X7_readStatement_133 v0 (fhI q3.2 v0 9 q3.1)
  else
  if q1.1 = (1 : Int32) then
    Option.bind (f_X7_readGuest v0 q2) fun q4 =>
    f_X7_readStatement_133 v0 q4
  else
  if q1.1 = (2 : Int32) then
    Option.bind (f_X5_readTest (v0 + 1) v0 q2) fun q5 =>
    fhlet (f_X7_noteTest v0 q1.1 (q2.1 (v0 + 1) 1) q5) fun q6 =>
    f_X7_readStatement_133 v0 q6
  else
  if q1.1 = (3 : Int32) then
    Option.bind (f_X7_readBlind v0 q2) fun q7 =>
    f_X7_readStatement_133 v0 q7
  else
  if q1.1 = (4 : Int32) then
    Option.bind (f_X5_readTest (v0 + 1) v0 q2) fun q8 =>
    fhlet (f_X7_noteTest v0 q1.1 (q2.1 (v0 + 1) 1) q8) fun q9 =>
    f_X7_readStatement_133 v0 q9
  else
  if q1.1 = (5 : Int32) then
    Option.bind (f_X5_readTest (v0 + 1) v0 q2) fun q10 =>
    fhlet (f_X7_noteTest v0 q1.1 (q2.1 (v0 + 1) 1) q10) fun q11 =>
    f_X7_readStatement_133 v0 q11
  else
  if q1.1 = (6 : Int32) then
    Option.bind (f_X5_readTest (v0 + 1) v0 q2) fun q12 =>
    fhlet (f_X7_noteTest v0 q1.1 (q2.1 (v0 + 1) 1) q12) fun q13 =>
    f_X7_readStatement_133 v0 q13
  else
  if q1.1 = (7 : Int32) then
    fhlet (f_X8_takeNumberWithin (0 : Int32) (100 : Int32) q2) fun q14 =>
    f_X7_readStatement_133 v0 (fhI q14.2 v0 13 q14.1)
  else
  Option.bind (f_X5_readTest (v0 + 1) v0 q2) fun q15 =>
  fhlet (f_X7_noteTest v0 q1.1 (q2.1 (v0 + 1) 1) q15) fun q16 =>
  f_X7_readStatement_133 v0 q16
noncomputable def f_X11_parlour_46  (σ : fhM) : Option (Int32 × fhM) :=
  if fhiP (σ.2.2 0 7) = true then
  Option.bind (f_X7_close (σ.2.2 0 7) σ) fun q4 =>
  fhlet (f_X11_noteFault q4) fun q5 =>
  if (q5.1 0 17) = 0 then
    if fhiP (q5.2.2 0 7) = true then
    Option.bind (f_X9_build (q5.2.2 0 7) (fhI (fhR (fhR q5 0 6 (q5.2.2 0 7)) 0 7 (q5.2.2 0 6)) 0 8 (1 : Int32))) fun q6 =>
    if fhiP (q6.2.2 0 6) = true then
    Option.bind (f_X4_begin (q6.1 (q6.2.2 0 6) 14) q6) fun q7 =>
    fhlet (f_X1_forget q7) fun q8 =>
    fhlet (f_X6_wipe q8) fun q9 =>
    if fhiP (q9.2.2 0 6) = true then
    some ((q9.1 (q9.2.2 0 6) 8), q9)
    else none
    else none
    else none
  else
    fhlet (f_X11_refuse (1 : Int32) q5) fun q10 =>
    some (q10.1, q10.2)
  else none
noncomputable def f_X11_parlour_17 (v1 : Int32) (σ : fhM) : Option ((Int32 × fhM) ⊕ (Int32 × fhM)) :=
  if (60 : Int32) < v1 then
    Option.map Sum.inr (f_X11_parlour_46 σ)
  else
    if (f_X8_isGoingOn σ) = true then
      if fhiP (σ.2.2 0 7) = true then
      Option.bind (f_X7_readStatement (σ.2.2 0 7) σ) fun q3 =>
      some (.inl ((v1 + (1 : Int32)), q3))
      else none
    else
      Option.map Sum.inr (f_X11_parlour_46 σ)
noncomputable def f_X11_parlour  (σ : fhM) : Option (Int32 × fhM) :=
  fhlet (f_X11_takeTape σ) fun q1 =>
  if fhiP (σ.2.2 0 7) = true then
  Option.bind (f_X7_open (σ.2.2 0 7) 1 q1.1 q1.2) fun q2 =>
  fhlp (fun x => f_X11_parlour_17 x.1 x.2) ((0 : Int32), q2)
  else none
noncomputable def f_X5_readQuestion_86 (v3 : Int32) (σ : fhM) : Option (Int32 × fhM) :=
  if (f_X8_isEnd σ) = true then
    some (v3, σ)
  else
    fhlet (f_X8_failHere σ) fun q7 =>
    some (v3, q7)
noncomputable def f_X5_readQuestion_33 (v3 : Int32) (σ : fhM) : Option (Int32 × fhM) :=
  fhlet (f_X8_advance σ) fun q3 =>
  Option.bind (f_X5_testN q3) fun q4 =>
  f_X5_readQuestion_86 v3 q4
noncomputable def f_X5_readQuestion_65 (v3 : Int32) (σ : fhM) : Option (Int32 × fhM) :=
  fhlet (f_X8_advance σ) fun q5 =>
  Option.bind (f_X5_sumN q5) fun q6 =>
  f_X5_readQuestion_86 v3 q6
noncomputable def f_X5_readQuestion (v1 : Nat) (v2 : Nat) (σ : fhM) : Option (Int32 × fhM) :=
  Option.bind (f_X5_begin v1 v2 (1 : Int32) σ) fun q1 =>
  if (f_X8_wordHere q1) = (26 : Int32) then
    f_X5_readQuestion_33 (f_X8_wordHere q1) q1
  else
    if (f_X8_wordHere q1) = (27 : Int32) then
      f_X5_readQuestion_33 (f_X8_wordHere q1) q1
    else
      if (f_X8_wordHere q1) = (28 : Int32) then
        f_X5_readQuestion_33 (f_X8_wordHere q1) q1
      else
        if (f_X8_wordHere q1) = (29 : Int32) then
          f_X5_readQuestion_65 (f_X8_wordHere q1) q1
        else
          if (f_X8_wordHere q1) = (30 : Int32) then
            f_X5_readQuestion_65 (f_X8_wordHere q1) q1
          else
            if (f_X8_wordHere q1) = (31 : Int32) then
              f_X5_readQuestion_65 (f_X8_wordHere q1) q1
            else
              fhlet (f_X8_failHere q1) fun q2 =>
              f_X5_readQuestion_86 (f_X8_wordHere q1) q2
noncomputable def f_X11_ask  (σ : fhM) : Option (Int64 × fhM) :=
  fhlet (f_X11_takeTape σ) fun q1 =>
  if (q1.2.1 0 8) = 0 then
    some ((-1000000000000000 : Int64), q1.2)
  else
    Option.bind (f_X8_open 1 q1.1 (fhI q1.2 6 1 (0 : Int32))) fun q2 =>
    if fhiP (q2.2.2 0 6) = true then
    Option.bind (f_X5_readQuestion 6 (q2.2.2 0 6) q2) fun q3 =>
    fhlet (f_X11_noteFault q3.2) fun q4 =>
    if (q4.1 0 17) = 0 then
      Option.bind (f_X11_answer q3.1 q4) fun q5 =>
      some (q5.1, q5.2)
    else
      some ((-1000000000000000 : Int64), q4)
    else none
