/-! THE CLASS READS A STATEMENT -/
theorem val_w {T : tT} {k : Nat} (h : kd T k = 1) (h6 : to T k - fm T k ≤ 6) : val T k = p5 (lt T k) := by
  have e := kd_13 (T := T) (k := k) (by omega)
  unfold val
  rw [if_pos (by omega), if_pos h6]
theorem c_nameN {e : Nat × Nat} {σ : fhM} (h : cF e σ) : (f_X8_takeName σ).2 = σ := by
  unfold f_X8_takeName f_X8_takeName_17 f_X8_takeName_21 f_X8_takeName_47 fhlet
  (try dsimp only)
  rw [h.2.2.1, if_neg (show ¬ (4 : Int32) = 1 by decide), c_failHereN h, c_failN h, c_advN h]
  split <;> rfl
theorem c_name {T : tT} (hT : tOK T) {m k : Nat} (hm : tend T m) {σ : fhM} (h : cP T m k σ) : ((aF T k).1 = 0 → (f_X8_takeName σ).1 = nI (p5 (lt T k)) ∧ cP T m (k + 1) (f_X8_takeName σ).2) ∧ ((aF T k).1 ≠ 0 → cF (aF T k) (f_X8_takeName σ).2) ∧ fr cDf σ (f_X8_takeName σ).2 := by
  have hT2 := hT.1
  have hl := to_le T k
  have h0 := h
  obtain ⟨h1, h2, h3, h4, h5, h6, h7, h8, h9⟩ := h0
  have a1 := kd_le4 T k
  -- behind a fault that was found
  have bad : ∀ s e, cF e s → f_X8_takeName_21 s = (s.1 3 6, s) := by
    intro s e hs
    unfold f_X8_takeName_21 f_X8_takeName_47 fhlet
    (try dsimp only)
    rw [c_failN hs, c_advN hs]
    split <;> rfl
  have badw : (aF T k) = (1, fm T k) → f_X8_takeName σ = f_X8_takeName_17 σ → ((aF T k).1 = 0 → (f_X8_takeName σ).1 = nI (p5 (lt T k)) ∧ cP T m (k + 1) (f_X8_takeName σ).2) ∧ ((aF T k).1 ≠ 0 → cF (aF T k) (f_X8_takeName σ).2) ∧ fr cDf σ (f_X8_takeName σ).2 := by
    intro e e2
    obtain ⟨a, b⟩ := c_failHere h
    have e3 : f_X8_takeName σ = ((f_X8_failHere σ).1 3 6, f_X8_failHere σ) := by
      rw [e2]
      unfold f_X8_takeName_17 fhlet
      exact bad _ _ a
    rw [e, e3]
    exact ⟨fun z => (by cases z), fun _ => a, b⟩
  by_cases q : kd T k = 1
  · have hk : k < m := c_kd hm (by omega)
    have hgt := to_gt (T := T) (k := k) (by omega)
    have hw := (h9 hk).2
    rw [wno_w q] at hw
    have how := ow_99 (l := lt T k)
    have e1 : f_X8_takeName σ = if (26 : Int32) ≤ σ.1 3 7 then f_X8_takeName_21 σ else f_X8_takeName_17 σ := by
      unfold f_X8_takeName
      rw [if_pos (show σ.1 3 4 = (1 : Int32) by rw [h8, q]; rfl)]
    by_cases q2 : lt T k ∈ oww
    · have : ow (lt T k) < 26 := oww_ow.mp q2
      refine badw (by unfold aF; rw [if_pos (Or.inr q2)]) ?_
      rw [e1, hw, if_neg (show ¬ (26 : Int32) ≤ nI (ow (lt T k)) from nI_ge (a := ow (lt T k)) (b := 26) (by omega) (by omega))]
    · have : ¬ ow (lt T k) < 26 := fun z => q2 (oww_ow.mpr z)
      have e2 : f_X8_takeName σ = f_X8_takeName_21 σ := by
        rw [e1, hw, if_pos (show (26 : Int32) ≤ nI (ow (lt T k)) from nI_le (a := 26) (by omega) (by omega))]
      have hd := lt_let q
      by_cases q3 : to T k - fm T k ≤ 6
      · have e : aF T k = (0, 0) := by unfold aF; rw [if_neg (by rintro (z | z); exact z q; exact q2 z), if_neg (by omega)]
        have e3 : f_X8_takeName σ = (σ.1 3 6, f_X8_advance σ) := by
          rw [e2]
          unfold f_X8_takeName_21 f_X8_takeName_47 fhlet
          (try dsimp only)
          rw [h7, h6, pk_sub (by omega), if_pos (show nI (to T k - fm T k) ≤ (6 : Int32) from nI_le (b := 6) q3 (by decide))]
        obtain ⟨a, b⟩ := c_adv hT hm hk h
        rw [e, e3]
        exact ⟨fun _ => ⟨by show σ.1 3 6 = _; rw [(h9 hk).1, val_w q q3], a⟩, fun z => absurd rfl z, fr_mo b (fun _ _ => cDa_f)⟩
      · have e : aF T k = (1, fm T k + 6) := by unfold aF; rw [if_neg (by rintro (z | z); exact z q; exact q2 z), if_pos (by omega)]
        obtain ⟨a, b⟩ := c_fail (e := (1, fm T k + 6)) h ⟨Nat.le_of_ble_eq_true rfl, Nat.le_of_ble_eq_true rfl⟩
        have a : cF (1, fm T k + 6) (f_X8_fail 1 (nI (fm T k + 6)) σ) := a
        have b : fr cDf σ (f_X8_fail 1 (nI (fm T k + 6)) σ) := b
        have e3 : f_X8_takeName σ = ((f_X8_fail 1 (nI (fm T k + 6)) σ).1 3 6, f_X8_fail 1 (nI (fm T k + 6)) σ) := by
          rw [e2]
          unfold f_X8_takeName_21 f_X8_takeName_47 fhlet
          (try dsimp only)
          rw [h7, h6, pk_sub (by omega), if_neg (show ¬ nI (to T k - fm T k) ≤ (6 : Int32) from nI_ge (a := 6) (by omega) (by omega)), show (6 : Int32) = nI 6 from rfl, nI_add, c_advN a]
        rw [e, e3]
        exact ⟨fun z => (by cases z), fun _ => a, b⟩
  · refine badw (by unfold aF; rw [if_pos (Or.inl q)]) ?_
    unfold f_X8_takeName
    rw [h8, if_neg (show ¬ nI _ = (1 : Int32) from nIn q (b := 1) (by omega) (by decide))]
