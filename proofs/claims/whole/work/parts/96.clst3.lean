/-! THE CLASS READS A STATEMENT, A TEXT -/
noncomputable def cs_body (P : Nat) (w : Int32) (σ : fhM) : Option fhM :=
  if w = (0 : Int32) then
    fhlet (f_X8_takeNumberWithin (2 : Int32) (4 : Int32) σ) fun q3 =>
    f_X7_readStatement_133 P (fhI q3.2 P 9 q3.1)
  else
  if w = (1 : Int32) then
    Option.bind (f_X7_readGuest P σ) fun q4 =>
    f_X7_readStatement_133 P q4
  else
  if w = (2 : Int32) then
    Option.bind (f_X5_begin (P + 1) P (0 : Int32) σ) fun q5 =>
    Option.bind (f_X5_testN q5) fun q6 =>
    fhlet (f_X7_noteTest P w (σ.1 (P + 1) 1) q6) fun q7 =>
    f_X7_readStatement_133 P q7
  else
  if w = (3 : Int32) then
    Option.bind (f_X7_readBlind P σ) fun q8 =>
    f_X7_readStatement_133 P q8
  else
  if w = (4 : Int32) then
    Option.bind (f_X5_begin (P + 1) P (0 : Int32) σ) fun q5 =>
    Option.bind (f_X5_testN q5) fun q6 =>
    fhlet (f_X7_noteTest P w (σ.1 (P + 1) 1) q6) fun q7 =>
    f_X7_readStatement_133 P q7
  else
  if w = (5 : Int32) then
    Option.bind (f_X5_begin (P + 1) P (0 : Int32) σ) fun q5 =>
    Option.bind (f_X5_testN q5) fun q6 =>
    fhlet (f_X7_noteTest P w (σ.1 (P + 1) 1) q6) fun q7 =>
    f_X7_readStatement_133 P q7
  else
  if w = (6 : Int32) then
    Option.bind (f_X5_begin (P + 1) P (0 : Int32) σ) fun q5 =>
    Option.bind (f_X5_testN q5) fun q6 =>
    fhlet (f_X7_noteTest P w (σ.1 (P + 1) 1) q6) fun q7 =>
    f_X7_readStatement_133 P q7
  else
  if w = (7 : Int32) then
    fhlet (f_X8_takeNumberWithin (0 : Int32) (100 : Int32) σ) fun q18 =>
    f_X7_readStatement_133 P (fhI q18.2 P 13 q18.1)
  else
    Option.bind (f_X5_begin (P + 1) P (0 : Int32) σ) fun q5 =>
    Option.bind (f_X5_testN q5) fun q6 =>
    fhlet (f_X7_noteTest P w (σ.1 (P + 1) 1) q6) fun q7 =>
    f_X7_readStatement_133 P q7
noncomputable def cs_body0 (P : Nat) (w : Int32) (σ : fhM) : Option fhM :=
  if w = (0 : Int32) then
    fhlet (f_X8_takeNumberWithin (2 : Int32) (4 : Int32) σ) fun q3 =>
    f_X7_readStatement_133 P (fhI q3.2 P 9 q3.1)
  else
  if w = (1 : Int32) then
    Option.bind (f_X7_readGuest P σ) fun q4 =>
    f_X7_readStatement_133 P q4
  else
  if w = (2 : Int32) then
    Option.bind (f_X5_readTest (P + 1) P σ) fun q5 =>
    fhlet (f_X7_noteTest P w (σ.1 (P + 1) 1) q5) fun q6 =>
    f_X7_readStatement_133 P q6
  else
  if w = (3 : Int32) then
    Option.bind (f_X7_readBlind P σ) fun q8 =>
    f_X7_readStatement_133 P q8
  else
  if w = (4 : Int32) then
    Option.bind (f_X5_readTest (P + 1) P σ) fun q5 =>
    fhlet (f_X7_noteTest P w (σ.1 (P + 1) 1) q5) fun q6 =>
    f_X7_readStatement_133 P q6
  else
  if w = (5 : Int32) then
    Option.bind (f_X5_readTest (P + 1) P σ) fun q5 =>
    fhlet (f_X7_noteTest P w (σ.1 (P + 1) 1) q5) fun q6 =>
    f_X7_readStatement_133 P q6
  else
  if w = (6 : Int32) then
    Option.bind (f_X5_readTest (P + 1) P σ) fun q5 =>
    fhlet (f_X7_noteTest P w (σ.1 (P + 1) 1) q5) fun q6 =>
    f_X7_readStatement_133 P q6
  else
  if w = (7 : Int32) then
    fhlet (f_X8_takeNumberWithin (0 : Int32) (100 : Int32) σ) fun q18 =>
    f_X7_readStatement_133 P (fhI q18.2 P 13 q18.1)
  else
    Option.bind (f_X5_readTest (P + 1) P σ) fun q5 =>
    fhlet (f_X7_noteTest P w (σ.1 (P + 1) 1) q5) fun q6 =>
    f_X7_readStatement_133 P q6
theorem cs_readTest (P : Nat) (σ : fhM) (f : fhM → Option fhM) : Option.bind (f_X5_readTest (P + 1) P σ) f = Option.bind (f_X5_begin (P + 1) P (0 : Int32) σ) fun q5 => Option.bind (f_X5_testN q5) f := by
  unfold f_X5_readTest
  cases f_X5_begin (P + 1) P (0 : Int32) σ with
  | none => rfl
  | some a =>
    show Option.bind (Option.bind (f_X5_testN a) fun q2 => some q2) f = Option.bind (f_X5_testN a) f
    cases f_X5_testN a <;> rfl
theorem cs_body0_e (P : Nat) (σ : fhM) : f_X7_readStatement P σ = cs_body0 P (f_X7_statementWord P σ).1 (f_X8_advance (f_X7_statementWord P σ).2) := rfl
theorem cs_body_0 (P : Nat) (w : Int32) (σ : fhM) : cs_body0 P w σ = cs_body P w σ := by
  unfold cs_body0 cs_body
  rw [cs_readTest]
theorem cs_body_e (P : Nat) (σ : fhM) : f_X7_readStatement P σ = cs_body P (f_X7_statementWord P σ).1 (f_X8_advance (f_X7_statementWord P σ).2) := by
  rw [cs_body0_e, cs_body_0]
section
variable {T : tT} {m P : Nat}
theorem cs_guestN (hP : fhiP P = true) {e : Nat × Nat} {σ : fhM} (h : cF e σ) : wq (f_X7_readGuest P σ) (fun s => wq (f_X7_readStatement_133 P s) (fun s2 => cF e s2 ∧ fpl (pD P) σ s2)) := by
  have bad : ∀ v, wq (f_X7_readGuest_34 P v σ) (fun s => wq (f_X7_readStatement_133 P s) (fun s2 => cF e s2 ∧ fpl (pD P) σ s2)) := fun v =>
    wq_mono (cs_guest34N hP h v) (fun s z => wq_mono (cs_semiN hP z.1) (fun s2 z2 => ⟨z2.1, fpl_tr z.2 z2.2⟩))
  unfold f_X7_readGuest
  rw [wq_let, c_nameN h, wq_bind]
  obtain ⟨v, hv⟩ := c_gnN P (f_X8_takeName σ).1 σ
  refine wq_of hv ?_
  split
  · exact bad _
  · rw [wq_let, c_failN h]
    exact bad _
theorem cs_blindN (hP : fhiP P = true) {e : Nat × Nat} {σ : fhM} (h : cF e σ) : wq (f_X7_readBlind P σ) (fun s => wq (f_X7_readStatement_133 P s) (fun s2 => cF e s2 ∧ fpl (pD P) σ s2)) := by
  have bad : ∀ v, wq (f_X7_readBlind_34 P v σ) (fun s => wq (f_X7_readStatement_133 P s) (fun s2 => cF e s2 ∧ fpl (pD P) σ s2)) := fun v =>
    wq_mono (cs_blind34N hP h v) (fun s z => wq_mono (cs_semiN hP z.1) (fun s2 z2 => ⟨z2.1, fpl_tr z.2 z2.2⟩))
  unfold f_X7_readBlind
  rw [wq_let, c_nameN h, wq_bind]
  obtain ⟨v, hv⟩ := c_gnN P (f_X8_takeName σ).1 σ
  refine wq_of hv ?_
  split
  · rw [wq_let, c_failN h]
    exact bad _
  · exact bad _
theorem cs_bodyN (hP : fhiP P = true) {e : Nat × Nat} {σ : fhM} (h : cF e σ) (w : Int32) : wq (cs_body P w σ) (fun s => cF e s ∧ fpl (pD P) σ s) := by
  have hp := ph_P hP
  have num : ∀ a b j, wq (fhlet (f_X8_takeNumberWithin a b σ) fun q3 => f_X7_readStatement_133 P (fhI q3.2 P j q3.1)) (fun s => cF e s ∧ fpl (pD P) σ s) := by
    intro a b j
    rw [wq_let, c_tnwN h]
    refine wq_mono (cs_semiN hP (cF_fr h (fun j => fhI_o (by omega)))) (fun s z => ⟨z.1, fpl_tr (fpl_I fpl_rf ?_) z.2⟩)
    unfold pD; omega
  unfold cs_body
  split
  · exact num _ _ _
  split
  · rw [wq_bind]; exact cs_guestN hP h
  split
  · exact cs_testN hP h _ _
  split
  · rw [wq_bind]; exact cs_blindN hP h
  split
  · exact cs_testN hP h _ _
  split
  · exact cs_testN hP h _ _
  split
  · exact cs_testN hP h _ _
  split
  · exact num _ _ _
  · exact cs_testN hP h _ _
/-- the word by number -/
noncomputable def wrd (T : tT) (k : Nat) : Nat := if kd T k = 1 then ow (lt T k) else 99
theorem wrd_lt (T : tT) (k : Nat) : wrd T k ≤ 99 := by
  unfold wrd
  have := ow_99 (l := lt T k)
  split <;> omega
theorem wrd_is {T : tT} {k j : Nat} (hj : j < 32) : isw T k j ↔ wrd T k = j := by
  unfold wrd isw
  by_cases q : kd T k = 1
  · rw [if_pos q]; exact ⟨fun z => z.2, fun z => ⟨q, z⟩⟩
  · rw [if_neg q]; exact ⟨fun z => absurd z.1 q, fun z => by omega⟩
theorem sw83N {e : Nat × Nat} {σ : fhM} (h : cF e σ) (v : Int32) : f_X7_statementWord_83 P v σ = (v, σ) := by
  unfold f_X7_statementWord_83 f_X7_statementWord_92 f_X7_statementWord_120 f_X7_statementWord_125 f_X7_statementWord_146 fhlet
  (try dsimp only)
  rw [c_failHereN h]
  repeat' split
  all_goals rfl
theorem sw83 {σ : fhM} {w n : Nat} (hw : w ≤ 99) (hn : σ.1 P 8 = nI n) (hn0 : 1 ≤ n) (hn60 : n ≤ 60) : f_X7_statementWord_83 P (nI w) σ = if w = 1 ∨ w = 3 ∨ w = 5 ∨ w = 6 ∨ w = 7 then (nI w, σ) else (nI w, f_X8_failHere σ) := by
  have h8 : ¬ σ.1 P 8 = 0 := by rw [hn]; exact nI_ne0 (by omega) (by omega)
  have h1 : (1 : Int32) ≠ 0 := by decide
  have c : ∀ j : Nat, j < 32 → ¬ w = j → ¬ nI w = nI j := fun j hj z => nIn z (by omega) (by omega)
  unfold f_X7_statementWord_83 f_X7_statementWord_92 f_X7_statementWord_120 f_X7_statementWord_125 f_X7_statementWord_146 fhlet
  (try dsimp only)
  rw [if_neg h8, if_neg h8, if_neg h1, if_pos (show (0 : Int32) = 0 from rfl)]
  by_cases w1 : w = 1
  · rw [if_pos (show nI w = (1 : Int32) by rw [w1]; rfl), if_pos (Or.inl w1)]
  rw [if_neg (show ¬ nI w = (1 : Int32) from c 1 (by decide) w1)]
  by_cases w3 : w = 3
  · rw [if_pos (show nI w = (3 : Int32) by rw [w3]; rfl), if_pos (by omega)]
  rw [if_neg (show ¬ nI w = (3 : Int32) from c 3 (by decide) w3)]
  by_cases w5 : w = 5
  · rw [if_pos (show nI w = (5 : Int32) by rw [w5]; rfl), if_pos (by omega)]
  rw [if_neg (show ¬ nI w = (5 : Int32) from c 5 (by decide) w5)]
  by_cases w6 : w = 6
  · rw [if_pos (show nI w = (6 : Int32) by rw [w6]; rfl), if_pos (by omega)]
  rw [if_neg (show ¬ nI w = (6 : Int32) from c 6 (by decide) w6)]
  by_cases w7 : w = 7
  · rw [if_pos (show nI w = (7 : Int32) by rw [w7]; rfl), if_pos (by omega)]
  rw [if_neg (show ¬ nI w = (7 : Int32) from c 7 (by decide) w7), if_neg (by omega)]
theorem sw83_0 {σ : fhM} {w : Nat} (hw : w ≤ 99) (hn : σ.1 P 8 = 0) : f_X7_statementWord_83 P (nI w) σ = if w = 0 then (nI w, σ) else (nI w, f_X8_failHere σ) := by
  unfold f_X7_statementWord_83 f_X7_statementWord_92 f_X7_statementWord_120 f_X7_statementWord_125 f_X7_statementWord_146 fhlet
  (try dsimp only)
  rw [if_pos hn, if_pos hn]
  by_cases q : w = 0
  · rw [if_pos q, if_pos (show nI w = (0 : Int32) by rw [q]; rfl), if_neg (show ¬ (1 : Int32) = 0 by decide)]
    repeat' split
    all_goals rfl
  · rw [if_neg q, if_neg (show ¬ nI w = (0 : Int32) from nIn q (b := 0) (by omega) (by decide)), if_pos (show (0 : Int32) = 0 from rfl)]
    repeat' split
    all_goals rfl
/-- what full brings -/
theorem sw58 {k : Nat} {σ : fhM} (h : cP T m k σ) (v : Int32) : ∃ s, f_X7_statementWord_58 P v σ = (v, s) ∧ cF (5, fm T k) s ∧ fr cDf σ s := by
  obtain ⟨a, b⟩ := c_fail (e := (5, fm T k)) h ⟨Nat.le_of_ble_eq_true rfl, Nat.le_of_ble_eq_true rfl⟩
  refine ⟨_, ?_, a, b⟩
  unfold f_X7_statementWord_58 f_X7_statementWord_63
  rw [if_neg (by decide), h.2.2.2.2.2.1]
  exact sw83N a v
/-- full, or not -/
abbrev fulL (p : fhPS) (w : Nat) : Prop := p.n = 60 ∨ (w = 1 ∧ p.gs.length = 5) ∨ (w = 5 ∧ p.ru.length = 4) ∨ (w = 6 ∧ p.fa.length = 8)
theorem sw_all (hm : tend T m) {k : Nat} {p : fhPS} {out : gC} {σ : fhM} (h : cP T m k σ) (hr : cRp P p out σ) (hb : p.n ≤ 60 ∧ p.gs.length ≤ 5 ∧ p.ru.length ≤ 4 ∧ p.fa.length ≤ 8) :
    (fulL p (wrd T k) → f_X7_statementWord P σ = f_X7_statementWord_58 P (nI (wrd T k)) σ) ∧ (¬ fulL p (wrd T k) → f_X7_statementWord P σ = f_X7_statementWord_83 P (nI (wrd T k)) σ) := by
  have hw : f_X8_wordHere σ = nI (wrd T k) := c_wh hm h
  have hl := wrd_lt T k
  have c : ∀ j : Nat, j < 32 → ¬ wrd T k = j → ¬ nI (wrd T k) = nI j := fun j hj z => nIn z (by omega) (by omega)
  obtain ⟨b1, b2, b3, b4⟩ := hb
  have e10 : σ.1 P 10 = nI p.gs.length := by rw [hr.2.2.1.1, nl_len]
  have e49 : f_X7_statementWord_49 P (nI (wrd T k)) σ = if p.n = 60 then f_X7_statementWord_58 P (nI (wrd T k)) σ else f_X7_statementWord_83 P (nI (wrd T k)) σ := by
    unfold f_X7_statementWord_49
    rw [hr.1]
    by_cases q : p.n = 60
    · rw [if_pos q, if_neg (show ¬ nI p.n < (60 : Int32) from nI_nlt (b := 60) (by omega) (by omega))]
    · rw [if_neg q, if_pos (show nI p.n < (60 : Int32) from nI_lt (b := 60) (by omega) (by decide))]
      unfold f_X7_statementWord_63
      rw [if_pos (show (0 : Int32) = 0 from rfl)]
  have e34 : f_X7_statementWord_34 P (nI (wrd T k)) σ = if p.n = 60 ∨ (wrd T k = 6 ∧ p.fa.length = 8) then f_X7_statementWord_58 P (nI (wrd T k)) σ else f_X7_statementWord_83 P (nI (wrd T k)) σ := by
    unfold f_X7_statementWord_34
    rw [hr.2.2.2.2.1, e49]
    by_cases q : wrd T k = 6
    · rw [if_pos (show nI (wrd T k) = (6 : Int32) by rw [q]; rfl)]
      by_cases q2 : p.fa.length = 8
      · rw [if_pos (show (8 : Int32) ≤ nI p.fa.length from nI_le (a := 8) (by omega) (by omega)), if_pos (Or.inr ⟨q, q2⟩)]
      · rw [if_neg (show ¬ (8 : Int32) ≤ nI p.fa.length from nI_ge (b := 8) (by omega) (by decide))]
        by_cases q3 : p.n = 60
        · rw [if_pos q3, if_pos (Or.inl q3)]
        · rw [if_neg q3, if_neg (by omega)]
    · rw [if_neg (show ¬ nI (wrd T k) = (6 : Int32) from c 6 (by decide) q)]
      by_cases q3 : p.n = 60
      · rw [if_pos q3, if_pos (Or.inl q3)]
      · rw [if_neg q3, if_neg (by omega)]
  have e21 : f_X7_statementWord_21 P (nI (wrd T k)) σ = if p.n = 60 ∨ (wrd T k = 5 ∧ p.ru.length = 4) ∨ (wrd T k = 6 ∧ p.fa.length = 8) then f_X7_statementWord_58 P (nI (wrd T k)) σ else f_X7_statementWord_83 P (nI (wrd T k)) σ := by
    unfold f_X7_statementWord_21
    rw [hr.2.2.2.1, e34]
    by_cases q : wrd T k = 5
    · rw [if_pos (show nI (wrd T k) = (5 : Int32) by rw [q]; rfl)]
      by_cases q2 : p.ru.length = 4
      · rw [if_pos (show (4 : Int32) ≤ nI p.ru.length from nI_le (a := 4) (by omega) (by omega)), if_pos (Or.inr (Or.inl ⟨q, q2⟩))]
      · rw [if_neg (show ¬ (4 : Int32) ≤ nI p.ru.length from nI_ge (b := 4) (by omega) (by decide))]
        by_cases q3 : p.n = 60
        · rw [if_pos (Or.inl q3), if_pos (Or.inl q3)]
        · rw [if_neg (by omega), if_neg (by omega)]
    · rw [if_neg (show ¬ nI (wrd T k) = (5 : Int32) from c 5 (by decide) q)]
      by_cases q3 : p.n = 60 ∨ (wrd T k = 6 ∧ p.fa.length = 8)
      · rw [if_pos q3, if_pos (by omega)]
      · rw [if_neg q3, if_neg (by omega)]
  have e0 : f_X7_statementWord P σ = if fulL p (wrd T k) then f_X7_statementWord_58 P (nI (wrd T k)) σ else f_X7_statementWord_83 P (nI (wrd T k)) σ := by
    unfold f_X7_statementWord
    rw [hw, e10, e21]
    by_cases q : wrd T k = 1
    · rw [if_pos (show nI (wrd T k) = (1 : Int32) by rw [q]; rfl)]
      by_cases q2 : p.gs.length = 5
      · rw [if_pos (show (5 : Int32) ≤ nI p.gs.length from nI_le (a := 5) (by omega) (by omega)), if_pos (Or.inr (Or.inl ⟨q, q2⟩))]
      · rw [if_neg (show ¬ (5 : Int32) ≤ nI p.gs.length from nI_ge (b := 5) (by omega) (by decide))]
        by_cases q3 : p.n = 60
        · rw [if_pos (Or.inl q3), if_pos (Or.inl q3)]
        · rw [if_neg (by omega), if_neg (by unfold fulL; omega)]
    · rw [if_neg (show ¬ nI (wrd T k) = (1 : Int32) from c 1 (by decide) q)]
      by_cases q3 : p.n = 60 ∨ (wrd T k = 5 ∧ p.ru.length = 4) ∨ (wrd T k = 6 ∧ p.fa.length = 8)
      · rw [if_pos q3, if_pos (by unfold fulL; omega)]
      · rw [if_neg q3, if_neg (by unfold fulL; omega)]
  exact ⟨fun z => by rw [e0, if_pos z], fun z => by rw [e0, if_neg z]⟩
end
section
variable {T : tT} {m P : Nat}
theorem gif_c {α : Type} {c : Prop} [Decidable c] {a b : α} : gif c a b = if c then a else b := by
  by_cases h : c
  · rw [gif_t h, if_pos h]
  · rw [gif_f h, if_neg h]
/-- a statement behind the first -/
theorem cs_stm (hT : tOK T) (hm : tend T m) (hP : fhiP P = true) {k : Nat} {p : fhPS} {σ : fhM} (h : cSt T m P p k σ) : wq (f_X7_readStatement P σ) (fun s2 => cRes T m P (stm T p k) s2 ∧ fpl (pD P) σ s2) := by
  obtain ⟨hc, hk, ho, out, hr, hl⟩ := h
  have hp := ph_P hP
  have ho' := ho
  obtain ⟨o1, o2, o3, o4, o5, o6, o7, o8, o9, o10, o11, o12, o13⟩ := ho'
  obtain ⟨y1, y2⟩ := sw_all hm hc hr ⟨o2, o5, o8, o9⟩
  have hwl := wrd_lt T k
  rw [cs_body_e]
  -- a fault by the word
  have bad : ∀ e s, f_X7_statementWord P σ = (nI (wrd T k), s) → cF e s → fr cDf σ s → stm T p k = .inl e → wq (cs_body P (f_X7_statementWord P σ).1 (f_X8_advance (f_X7_statementWord P σ).2)) (fun s2 => cRes T m P (stm T p k) s2 ∧ fpl (pD P) σ s2) := by
    intro e s e1 hF hf e2
    rw [e1, e2, c_advN hF]
    exact wq_mono (cs_bodyN hP hF _) (fun s2 z => ⟨z.1, fpl_tr (fpl_r hf (fun _ _ => cDf_pD)) z.2⟩)
  by_cases hfu : fulL p (wrd T k)
  · obtain ⟨s, e1, e2, e3⟩ := sw58 (P := P) hc (nI (wrd T k))
    refine bad (5, fm T k) s (by rw [y1 hfu, e1]) e2 e3 ?_
    unfold stm
    by_cases q0 : p.n = 60
    · rw [gif_t q0]
    · rw [gif_f q0]
      by_cases q1 : wrd T k = 1
      · rw [gif_t ((wrd_is (by decide)).mpr q1), gif_t (by unfold fulL at hfu; omega)]
      · rw [gif_f (fun z => q1 ((wrd_is (by decide)).mp z))]
        by_cases q3 : wrd T k = 3
        · exfalso; unfold fulL at hfu; omega
        · rw [gif_f (fun z => q3 ((wrd_is (by decide)).mp z))]
          by_cases q5 : wrd T k = 5
          · rw [gif_t ((wrd_is (by decide)).mpr q5), gif_t (by unfold fulL at hfu; omega)]
          · rw [gif_f (fun z => q5 ((wrd_is (by decide)).mp z))]
            by_cases q6 : wrd T k = 6
            · rw [gif_t ((wrd_is (by decide)).mpr q6), gif_t (by unfold fulL at hfu; omega)]
            · exfalso; unfold fulL at hfu; omega
  · have e83 := y2 hfu
    rw [sw83 hwl hr.1 o1 o2] at e83
    by_cases qo : wrd T k = 1 ∨ wrd T k = 3 ∨ wrd T k = 5 ∨ wrd T k = 6 ∨ wrd T k = 7
    · rw [if_pos qo] at e83
      have hkd : kd T k ≠ 0 := by
        unfold wrd at qo
        by_cases z : kd T k = 1
        · omega
        · rw [if_neg z] at qo; omega
      have hkm := c_kd hm hkd
      obtain ⟨a, f⟩ := c_adv hT hm hkm hc
      have f1 : fpl (pD P) σ (f_X8_advance σ) := fpl_r f (fun _ _ z => cDf_pD (cDa_f z))
      have hr2 : cRp P p out (f_X8_advance σ) := cRp_fr hr (fun t j h1 h2 => f.2 t j (by unfold cDa; omega))
      rw [e83]
      have ho2 : sOK T p (k + 1) := ⟨o1, o2, o3, o4, o5, o6, o7, o8, o9, o10, o11, by omega, by have := hm.1; omega⟩
      show wq (cs_body P (nI (wrd T k)) (f_X8_advance σ)) _
      have qn : ¬ p.n = 60 := by unfold fulL at hfu; omega
      unfold stm
      rw [gif_f qn]
      have c : ∀ j : Nat, j < 32 → ¬ wrd T k = j → ¬ nI (wrd T k) = nI j := fun j hj z => nIn z (by omega) (by omega)
      unfold cs_body
      rw [if_neg (show ¬ nI (wrd T k) = (0 : Int32) from c 0 (by decide) (by omega))]
      by_cases q1 : wrd T k = 1
      · rw [if_pos (show nI (wrd T k) = (1 : Int32) by rw [q1]; rfl), gif_t ((wrd_is (by decide)).mpr q1), gif_f (by unfold fulL at hfu; omega), wq_bind]
        exact wq_mono (cs_guest hT hm hP a (by omega) hr2 (by omega) ho2 (by omega) (by unfold fulL at hfu; omega)) (fun s z => wq_mono z (fun s2 z2 => ⟨z2.1, fpl_tr f1 z2.2⟩))
      rw [if_neg (show ¬ nI (wrd T k) = (1 : Int32) from c 1 (by decide) q1), if_neg (show ¬ nI (wrd T k) = (2 : Int32) from c 2 (by decide) (by omega)), gif_f (fun z => q1 ((wrd_is (by decide)).mp z))]
      by_cases q3 : wrd T k = 3
      · rw [if_pos (show nI (wrd T k) = (3 : Int32) by rw [q3]; rfl), gif_t ((wrd_is (by decide)).mpr q3), wq_bind]
        exact wq_mono (cs_blind hT hm hP a (by omega) hr2 (by omega) ho2 (by omega)) (fun s z => wq_mono z (fun s2 z2 => ⟨z2.1, fpl_tr f1 z2.2⟩))
      rw [if_neg (show ¬ nI (wrd T k) = (3 : Int32) from c 3 (by decide) q3), if_neg (show ¬ nI (wrd T k) = (4 : Int32) from c 4 (by decide) (by omega)), gif_f (fun z => q3 ((wrd_is (by decide)).mp z))]
      by_cases q5 : wrd T k = 5
      · rw [if_pos (show nI (wrd T k) = (5 : Int32) by rw [q5]; rfl), gif_t ((wrd_is (by decide)).mpr q5), gif_f (by unfold fulL at hfu; omega)]
        have := cs_test hT hm hP a (by omega) hr2 (by omega) ho2 (by omega) true (by show p.ru.length < 4; unfold fulL at hfu; omega)
        rw [q5]
        exact wq_mono this (fun s2 z2 => ⟨z2.1, fpl_tr f1 z2.2⟩)
      rw [if_neg (show ¬ nI (wrd T k) = (5 : Int32) from c 5 (by decide) q5), gif_f (fun z => q5 ((wrd_is (by decide)).mp z))]
      by_cases q6 : wrd T k = 6
      · rw [if_pos (show nI (wrd T k) = (6 : Int32) by rw [q6]; rfl), gif_t ((wrd_is (by decide)).mpr q6), gif_f (by unfold fulL at hfu; omega)]
        have := cs_test hT hm hP a (by omega) hr2 (by omega) ho2 (by omega) false (by show p.fa.length < 8; unfold fulL at hfu; omega)
        rw [q6]
        exact wq_mono this (fun s2 z2 => ⟨z2.1, fpl_tr f1 z2.2⟩)
      have q7 : wrd T k = 7 := by omega
      rw [if_neg (show ¬ nI (wrd T k) = (6 : Int32) from c 6 (by decide) q6), gif_f (fun z => q6 ((wrd_is (by decide)).mp z)), if_pos (show nI (wrd T k) = (7 : Int32) by rw [q7]; rfl), gif_t ((wrd_is (by decide)).mpr q7), wq_let]
      exact wq_mono (cs_slip hT hm hP a (by omega) hr2 (by omega) ho2 (by omega)) (fun s2 z2 => ⟨z2.1, fpl_tr f1 z2.2⟩)
    · rw [if_neg qo] at e83
      obtain ⟨a, b⟩ := c_failHere hc
      refine bad (1, fm T k) _ e83 a b ?_
      unfold stm
      rw [gif_f (by unfold fulL at hfu; omega), gif_f (fun z => qo (by have := (wrd_is (by decide)).mp z; omega)), gif_f (fun z => qo (by have := (wrd_is (by decide)).mp z; omega)), gif_f (fun z => qo (by have := (wrd_is (by decide)).mp z; omega)), gif_f (fun z => qo (by have := (wrd_is (by decide)).mp z; omega)), gif_f (fun z => qo (by have := (wrd_is (by decide)).mp z; omega))]
end
