/-! THE CLASS READS A TEXT -/
section
variable {T : tT} {m P : Nat}
/-- the first statement -/
theorem cs_stm0 (hT : tOK T) (hm : tend T m) (hP : fhiP P = true) {k : Nat} {σ : fhM} (hc : cP T m k σ) (hk0 : k ≤ m) (hr : cRp P ps0 [] σ) : wq (f_X7_readStatement P σ) (fun s2 => cRes T m P (stm0 T k) s2 ∧ fpl (pD P) σ s2) := by
  have hp := ph_P hP
  obtain ⟨y1, y2⟩ := sw_all hm hc hr ⟨by decide, by decide, by decide, by decide⟩
  have hwl := wrd_lt T 0
  have hfu : ¬ fulL ps0 (wrd T k) := by
    unfold fulL ps0
    dsimp only [List.length_nil]
    omega
  rw [cs_body_e, y2 hfu, sw83_0 hwl hr.1]
  unfold stm0
  by_cases q0 : wrd T k = 0
  · have hi := (wrd_is (T := T) (k := k) (j := 0) (by decide)).mpr q0
    have hkm := c_kd hm (isw_k hi)
    rw [if_pos q0, gif_t hi]
    obtain ⟨a, f⟩ := c_adv hT hm hkm hc
    have f1 : fpl (pD P) σ (f_X8_advance σ) := fpl_r f (fun _ _ z => cDf_pD (cDa_f z))
    have hr2 : cRp P ps0 [] (f_X8_advance σ) := cRp_fr hr (fun t j h1 h2 => f.2 t j (by unfold cDa; omega))
    dsimp only
    unfold cs_body
    rw [if_pos (show nI (wrd T k) = (0 : Int32) by rw [q0]; rfl), wq_let]
    generalize f_X8_advance σ = σ1 at *
    obtain ⟨n1, n2, n3⟩ := c_tnw (lo := 2) (hi := 4) hT hm a (by decide) (by decide)
    rw [show (2 : Int32) = nI 2 from rfl, show (4 : Int32) = nI 4 from rfl]
    have f2 : fpl (pD P) σ (f_X8_takeNumberWithin (nI 2) (nI 4) σ1).2 := fpl_tr f1 (fpl_r n3 (fun _ _ => cDf_pD))
    by_cases q : (nF T (k + 1) 2 4).1 = 0
    · obtain ⟨n4, n5⟩ := n1 q
      obtain ⟨z1, z2, z3, z4⟩ := nF_0 q
      have hkm2 := c_kd hm (show kd T (k + 1) ≠ 0 by omega)
      have hr3 : cRp P ps0 [] (f_X8_takeNumberWithin (nI 2) (nI 4) σ1).2 := cRp_fr hr2 (fun t j h1 h2 => n3.2 t j (by unfold cDf; omega))
      rw [gif_t q, n5]
      generalize (f_X8_takeNumberWithin (nI 2) (nI 4) σ1).2 = σ2 at *
      obtain ⟨h1, h2, h3, h4, h5, h6, h7, h8, h9, h10, h11, h12⟩ := hr3
      refine wq_mono (cs_semi (p := { ps0 with m := nv T (k + 1) }) (out := []) (k := k + 2) hT hm hP (cP_fr n4 (fun j => ?_) (fun j => ?_)) (by omega) ?_ (Nat.zero_le _) (Nat.le_of_ble_eq_true rfl) ?_) (fun s2 z => ⟨z.1, fpl_tr (fpl_I f2 (by unfold pD; omega)) z.2⟩)
      · simp (disch := omega) only [fhI_e, fhI_o, fhI_s]
      · simp (disch := omega) only [fhI_e, fhI_o, fhI_s]
      · refine ⟨?_, ?_, cN_fr h3 (by simp (disch := omega) only [fhI_e, fhI_o, fhI_s]) (fun i => by simp (disch := omega) only [fhI_e, fhI_o, fhI_s]), ?_, ?_, ?_, ?_, ?_, ?_, cTs_fr h10 (fun j => by simp (disch := omega) only [fhI_e, fhI_o, fhI_s]), cTs_fr h11 (fun j => by simp (disch := omega) only [fhI_e, fhI_o, fhI_s]), cS_fr h12 (by simp (disch := omega) only [fhI_e, fhI_o, fhI_s]) (fun i => by simp (disch := omega) only [fhI_e, fhI_o, fhI_s])⟩
        · simp (disch := omega) only [fhI_e, fhI_o, fhI_s]; exact h1
        · simp (disch := omega) only [fhI_e, fhI_o, fhI_s]
        · simp (disch := omega) only [fhI_e, fhI_o, fhI_s]; exact h4
        · simp (disch := omega) only [fhI_e, fhI_o, fhI_s]; exact h5
        · simp (disch := omega) only [fhI_e, fhI_o, fhI_s]; exact h6
        · simp (disch := omega) only [fhI_e, fhI_o, fhI_s]; exact h7
        · simp (disch := omega) only [fhI_e, fhI_o, fhI_s]; exact h8
        · intro x hx; simp (disch := omega) only [fhI_e, fhI_o, fhI_s]; exact h9 x hx
      · by_cases q6 : isg T (k + 2) 59
        · left
          have hk3 := kd_num (isg_k q6)
          exact ⟨Nat.le_refl 1, Nat.le_of_ble_eq_true rfl, z3, z4, Nat.zero_le _, fun x hx => by cases hx, fun _ => Nat.le_of_ble_eq_true rfl, Nat.zero_le _, Nat.zero_le _, Nat.zero_le _, fun c hc => by rcases hc with z | z <;> cases z, Nat.zero_le _, by omega⟩
        · exact Or.inr q6
    · have hF := n2 q
      rw [gif_f q]
      exact wq_mono (cs_semiN hP (cF_fr hF (fun j => fhI_o (by omega)))) (fun s2 z => ⟨z.1, fpl_tr (fpl_I f2 (by unfold pD; omega)) z.2⟩)
  · rw [if_neg q0, gif_f (fun z => q0 ((wrd_is (by decide)).mp z))]
    obtain ⟨a, b⟩ := c_failHere hc
    dsimp only
    rw [c_advN a]
    exact wq_mono (cs_bodyN hP a _) (fun s2 z => ⟨z.1, fpl_tr (fpl_r b (fun _ _ => cDf_pD)) z.2⟩)
end
