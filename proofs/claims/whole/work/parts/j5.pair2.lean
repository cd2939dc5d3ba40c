/-! THE PAIRS: more answers that change nothing of weight -/
section
variable {n : Nat} {A : aS} {σ τ : fhM}
theorem MS_t {σ s : fhM} (h : MS A σ) (hq : s = σ ∨ ∃ t u, s = fhU (fhU σ 46 t) 42 u) : MS A s := by
  rcases hq with rfl | ⟨t, u, rfl⟩
  · exact h
  · exact MS_q h (fr_qU (by unfold qDm; omega) (by unfold qDm; omega))
theorem MS_tbM (h : MS A σ) : gmM (aW A.p) A.G.L A.G.w A.G.rd σ ∧ kpM (lst40 A.G.H) σ := tbM_g h.1.2.2.1.2.1
theorem p_guest (hc : CS A σ) (hm : MS A τ) (hv : AV n A) (v w : Int32) : okQ n (Option.map (fun x => (x, σ)) (f_X11_guest v w σ)) (f_X12_guest v w τ) := by
  have hW := aW_ok hv
  obtain ⟨g1, g2, g3, g4, g5⟩ := AV_G hv
  rw [c_guest hW (tbF_rw hc.1.2.2.1.1) hc.1.2.2.1.2.2.1 hc.1.2.2.1.1.2.2.2.2.2.2.1 g1 v w]
  refine okQ_w (v := gstA (aW A.p) (rl (aW A.p).N A.G.L) A.G.w v w) (P := fun _ => True) (Q := fun _ => True) (B := A) (wq_some.mpr ⟨rfl, hc⟩) (wq_mono (m_guest hW hm.1.2.2.1.1.1 (MS_tbM hm).1 hm.1.2.2.1.1.2.2.2.2.1 g1 v w) ?_) (AV_s hv)
  rintro r ⟨h1, h2⟩
  refine ⟨h1, ?_⟩
  rcases h2 with h2 | ⟨k, x, y, h2⟩
  · rw [h2]; exact hm
  · rw [h2]
    exact MS_q hm (fr_I (fr_I fr_rf (by unfold qDm; omega)) (by unfold qDm; omega))
theorem p_fact (hc : CS A σ) (hm : MS A τ) (hv : AV n A) (v w : Int32) : okQ n (Option.map (fun x => (x, σ)) (f_X11_fact v w σ)) (Option.map (fun x => (x, τ)) (f_X12_fact v w τ)) := by
  have hW := aW_ok hv
  obtain ⟨g1, g2, g3, g4, g5⟩ := AV_G hv
  have hmt := hm.1.2.2.1.1
  rw [c_fact hW hc.1.2.2.1.1 hc.1.2.2.1.2.2.1 g3 g2 v w, m_factA hW hmt.1 hmt.2.1 (MS_tbM hm).1 hmt.2.2.2.1 hmt.2.2.1 g2 v w]
  exact ⟨_, σ, τ, A, rfl, rfl, hc, hm, AV_s hv⟩
theorem p_left (hc : CS A σ) (hm : MS A τ) (hv : AV n A) (v : Int32) : okQ n (some (f_X11_left v σ, σ)) (Option.map (fun x => (x, τ)) (f_X12_left v τ)) := by
  have hW := aW_ok hv
  rw [c_left hW hc.1.2.2.1.2.2.1 v, m_left hW hm.1.2.2.1.1.1.2.2.1 (MS_tbM hm).1.1 v]
  exact ⟨_, σ, τ, A, rfl, rfl, hc, hm, AV_s hv⟩
theorem p_wears (hc : CS A σ) (hm : MS A τ) (hv : AV n A) (v w : Int32) : okQ n (some (f_X11_wears v w σ, σ)) (Option.map (fun x => (x, τ)) (f_X12_wears v w τ)) := by
  have hW := aW_ok hv
  have h47 : τ.1 0 47 = 0 → (aW A.p).g = 0 := by
    intro h
    have ht := hm.1.2.1
    cases hp : A.p with
    | none => rfl
    | some p =>
      rw [hp] at ht
      rw [ht.1] at h
      exact absurd h (by decide)
  rw [c_wears hW (tbF_rw hc.1.2.2.1.1) hc.1.2.2.1.1.2.2.2.1 v w, m_wears hW hm.1.2.2.1.1.1 h47 v w]
  exact ⟨_, σ, τ, A, rfl, rfl, hc, hm, AV_s hv⟩
theorem p_kept (hc : CS A σ) (hm : MS A τ) (hv : AV n A) (hn : n ≤ 1000) (v w : Int32) : okQ n (some (f_X11_kept v w σ, σ)) (Option.map (fun x => (x, τ)) (f_X12_kept v w τ)) := by
  have hl := chn_len hv.2.2.1
  have hH := hv.2.2.2.2.1
  rw [c_keptA hc.1.2.2.1.2.2.2.1 hl.1 (by omega) v w, m_keptA (MS_tbM hm).2 v w]
  exact ⟨_, σ, τ, A, rfl, rfl, hc, hm, AV_s hv⟩
theorem p_knows (hc : CS A σ) (hm : MS A τ) (hv : AV n A) (v w : Int32) : okQ n (Option.map (fun x => (x, σ)) (f_X11_knows v w σ)) (f_X12_knows v w τ) := by
  have hW := aW_ok hv
  obtain ⟨g1, g2, g3, g4, g5⟩ := AV_G hv
  rw [c_knows hW (tbF_rw hc.1.2.2.1.1) hc.1.2.2.1.2.2.1 g1 v w]
  exact okQ_w (v := knwA (aW A.p) (rl (aW A.p).N A.G.L) A.G.w v w) (P := fun _ => True) (Q := fun _ => True) (B := A) (wq_some.mpr ⟨rfl, hc⟩) (wq_mono (m_knows hW hm.1.2.2.1.1.1 (MS_tbM hm).1 g1 v w) (fun r h => ⟨h.1, MS_t hm h.2⟩)) (AV_s hv)
theorem p_speaker (hc : CS A σ) (hm : MS A τ) (hv : AV n A) (v : Int32) : okQ n (Option.map (fun x => (x, σ)) (f_X11_speaker v σ)) (f_X12_speaker v τ) := by
  have hW := aW_ok hv
  obtain ⟨g1, g2, g3, g4, g5⟩ := AV_G hv
  rw [c_speaker hW hc.1.2.2.1.1.2.1 hc.1.2.2.1.2.2.1 g1 v]
  exact okQ_w (v := spkA (aW A.p) (rl (aW A.p).N A.G.L) A.G.w v) (P := fun _ => True) (Q := fun _ => True) (B := A) (wq_some.mpr ⟨rfl, hc⟩) (wq_mono (m_speaker hW hm.1.2.2.1.1.1 (MS_tbM hm).1 g1 v) (fun r h => ⟨h.1, MS_t hm h.2⟩)) (AV_s hv)
end
