/-! THE REFERENCE READS A TEST -/
section
variable {T : tT}
theorem ms_slip (hT : tOK T) {k : Nat} {p : fhPS} {σ : fhM} (h : mP T k σ) (hk : k ≤ T.2) (hw : mW σ) (hr : mRp p σ) (ho : sOK T p k) (hn : p.n < 60) :
    wq (f_X12_number (0 : Int32) (100 : Int32) σ) (fun r => wq (f_X12_statementTold_122 (fhI r.2 29 4 r.1)) (fun s2 => mRes T (sSlip T p k) s2 ∧ frl sD σ s2)) := by
  obtain ⟨o1, o2, o3, o4, o5, o6, o7, o8, o9, o10, o11, o12, o13⟩ := ho
  have hnum := m_number (lo := 0) (hi := 100) hT (by decide) (by decide) h
  refine wq_mono hnum (fun r w => ?_)
  obtain ⟨x, s⟩ := r
  obtain ⟨w1, w2, w3⟩ := w
  dsimp only at w1 w2 w3 ⊢
  have f1 : frl sD σ s := frl_r w3 (fun _ _ => mD_s)
  have f2 : frl sD σ (fhI s 29 4 x) := frl_I f1 (by unfold sD; omega)
  unfold sSlip
  by_cases q : (nF T k 0 100).1 = 0
  · obtain ⟨hp, hx⟩ := w1 q
    obtain ⟨z1, z2, z3, z4⟩ := nF_0 q
    have hkT := kd_num (show kd T k ≠ 0 by omega)
    rw [gif_t q, hx]
    rw [hx] at f2
    obtain ⟨h1, h2, h3, h4, h5, h6, h7, h8, h9, h10, h11⟩ := mRp_m hr w3
    refine wq_mono (ms_semi (p := { p with sl := nv T k }) (k := k + 1) hT (mP_fr hp (fun i _ => ?_) ?_ ?_ ?_ ?_) (mW_fr (mW_m hw w3) (fun v i hv hi => ?_)) ?_ hn ?_) (fun s5 z => ⟨z.1, frl_tr f2 z.2⟩)
    · simp (disch := omega) only [fhI_e, fhI_o, fhI_s]
    · simp (disch := omega) only [fhI_e, fhI_o, fhI_s]
    · simp (disch := omega) only [fhI_e, fhI_o, fhI_s]
    · simp (disch := omega) only [fhI_e, fhI_o, fhI_s]
    · simp (disch := omega) only [fhI_e, fhI_o, fhI_s]
    · have hv2 : v ≠ 29 := by rintro rfl; exact Nat.not_lt_zero _ hi
      simp (disch := omega) only [fhI_e, fhI_o, fhI_s]
    · refine ⟨?_, ?_, rN_fr h3 (by simp (disch := omega) only [fhI_e, fhI_o, fhI_s]) rfl, ?_, ?_, ?_, ?_, ?_, mTs_fr h9 (fun j => by simp (disch := omega) only [fhI_e, fhI_o, fhI_s]) (fun j => by simp (disch := omega) only [fhI_e, fhI_o, fhI_s]) (fun j _ => by simp (disch := omega) only [fhI_e, fhI_o, fhI_s]), mTs_fr h10 (fun j => by simp (disch := omega) only [fhI_e, fhI_o, fhI_s]) (fun j => by simp (disch := omega) only [fhI_e, fhI_o, fhI_s]) (fun j _ => by simp (disch := omega) only [fhI_e, fhI_o, fhI_s]), ?_⟩
      · simp (disch := omega) only [fhI_e, fhI_o, fhI_s]; exact h1
      · simp (disch := omega) only [fhI_e, fhI_o, fhI_s]; exact h2
      · simp (disch := omega) only [fhI_e, fhI_o, fhI_s]; exact h4
      · simp (disch := omega) only [fhI_e, fhI_o, fhI_s]; exact h5
      · simp (disch := omega) only [fhI_e, fhI_o, fhI_s]
      · intro g x hx; simp (disch := omega) only [fhI_e, fhI_o, fhI_s]; exact h7 g x hx
      · intro x hx; simp (disch := omega) only [fhI_e, fhI_o, fhI_s]; exact h8 x hx
      · simp (disch := omega) only [fhI_e, fhI_o, fhI_s]; exact h11
    · by_cases q6 : isg T (k + 1) 59
      · left
        have hk3 := kd_num (isg_k q6)
        exact ⟨by show 1 ≤ p.n + 1; omega, by show p.n + 1 ≤ 60; omega, o3, o4, o5, o6, o7, o8, o9, z4, o11, by show (p.ru.map List.length).sum + (p.fa.map List.length).sum ≤ k + 1 + 1; omega, by omega⟩
      · exact Or.inr q6
  · have hF := mF_tF (w2 q) (nF_b q)
    rw [gif_f q]
    have hF2 : tF (nF T k 0 100) (fhI s 29 4 x) := by
      obtain ⟨⟨a, b⟩, c, d⟩ := hF
      refine ⟨⟨?_, ?_⟩, c, d⟩
      · simp (disch := omega) only [fhI_e, fhI_o, fhI_s]; exact a
      · simp (disch := omega) only [fhI_e, fhI_o, fhI_s]; exact b
    exact wq_mono (ms_semiN hF2) (fun s2 z => ⟨z.1, frl_tr f2 z.2⟩)
end
