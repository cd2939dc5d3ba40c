/-! THE PAIRS: what lies ahead, how deep -/
theorem okQ_p {α : Type} {n : Nat} {oF oM : Option (α × fhM)} {R : α → Prop} (hu : ∀ v w, R v → R w → v = w) {B : aS} (h1 : wq oF (fun r => R r.1 ∧ CS B r.2)) (h2 : wq oM (fun r => R r.1 ∧ MS B r.2)) (h3 : AV (n + 1) B) : okQ n oF oM := by
  obtain ⟨⟨a, s⟩, e1, r1, c⟩ := h1
  obtain ⟨⟨b, t⟩, e2, r2, d⟩ := h2
  have h : b = a := hu b a r2 r1
  subst h
  exact ⟨_, s, t, B, e1, e2, c, d, h3⟩
section
variable {n : Nat} {A : aS} {σ τ : fhM}
theorem CS_ah {s : fhM} (h : CS A σ) (hf : fpl aD σ s) (ha : ahR (aW A.p) A.G.L A.G.w s) : CS A s := by
  have e : ∀ t j, ¬ aD t → s.1 t j = σ.1 t j ∧ s.2.2 t j = σ.2.2 t j := fun t j z => hf.1 t j z
  exact ⟨CS0_q h.1 (fun t j z => (e t j (by unfold kpC at z; unfold aD; omega)).1) (fun j => (e 0 j (by unfold aD; omega)).2) (Or.inr ha) (anC_k h.1.2.2.2.2 (fun t j z => (e t j (by unfold aD; omega)).1) (fun j => (e 76 j (by unfold aD; omega)).2)), CS1_k h.2 (fun t j z => (e t j (by unfold kpD at z; unfold aD; omega)).1)⟩
/-- scratch tables of the class -/
theorem CS_sc {s : fhM} (h : CS A σ) (hf : fpl (fun t => t = 65 ∨ t = 67 ∨ t = 69 ∨ t = 71) σ s) : CS A s := by
  have e : ∀ t j, ¬ (t = 65 ∨ t = 67 ∨ t = 69 ∨ t = 71) → s.1 t j = σ.1 t j ∧ s.2.2 t j = σ.2.2 t j := fun t j z => hf.1 t j z
  exact ⟨CS0_k h.1 (fun t j z => (e t j (by unfold kpC at z; omega)).1) (fun t j z => (e t j (by omega)).2), CS1_k h.2 (fun t j z => (e t j (by unfold kpD at z; omega)).1)⟩
theorem MS_y {s : fhM} (h : MS A σ) (hf : fr yD σ s) : MS A s := MS_q h (fr_mo hf (fun t j z => by unfold yD at z; unfold qDm; omega))
theorem told (hc : CS A σ) (hm : MS A τ) : (A.p = none ∧ σ.1 0 8 = 0 ∧ τ.1 0 47 = 0) ∨ (∃ p, A.p = some p ∧ ¬ σ.1 0 8 = 0 ∧ ¬ τ.1 0 47 = 0) := by
  have ht := hc.1.2.1
  have hu := hm.1.2.1
  cases hp : A.p with
  | none =>
    rw [hp] at ht hu
    exact Or.inl ⟨rfl, ht.1, hu.1⟩
  | some p =>
    rw [hp] at ht hu
    exact Or.inr ⟨p, rfl, by rw [ht.1]; decide, by rw [hu.1]; decide⟩
theorem AV_w {p : fhPS} (hv : AV n A) (hp : A.p = some p) : A.G.w ∈ rl (aW A.p).N A.G.L := by
  have h0 := hv.2.1
  rw [hp] at h0 ⊢
  exact h0.2.1.1
theorem c_ahead (hc : CS A σ) (hv : AV n A) (hw : A.G.w ∈ rl (aW A.p).N A.G.L) : wq (f_X4_lookAhead σ) (fun s => CS A s ∧ ahR (aW A.p) A.G.L A.G.w s) := by
  unfold f_X4_lookAhead
  rw [wq_bind]
  refine wq_mono (c_prepareA (aW_ok hv) (tbF_rw hc.1.2.2.1.1) hc.1.2.2.1.2.1 hc.1.2.2.1.2.2.1 hw hc.1.2.2.2.1) ?_
  rintro s ⟨h1, h2⟩
  rw [wq_some]
  exact ⟨CS_ah hc h2 h1, h1⟩
theorem p_deep (hc : CS A σ) (hm : MS A τ) (hv : AV n A) : okQ n (f_X11_deep σ) (f_X12_deep τ) := by
  have hW := aW_ok hv
  obtain ⟨g1, g2, g3, g4, g5⟩ := AV_G hv
  rcases told hc hm with ⟨-, h8, h47⟩ | ⟨p, hp, h8, h47⟩
  · unfold f_X11_deep f_X12_deep
    rw [if_pos h8, if_pos h47]
    exact ⟨_, σ, τ, A, rfl, rfl, hc, hm, AV_s hv⟩
  · have hw := AV_w hv hp
    refine okQ_p (R := lev9 (fun n => dp (aW A.p) A.G.L n A.G.w)) (fun _ _ => lev9_u) (B := A) ?_ ?_ (AV_s hv)
    · unfold f_X11_deep
      rw [if_neg h8, wq_bind]
      refine wq_mono (c_depth hW (tbF_rw hc.1.2.2.1.1) hc.1.2.2.1.2.1 hc.1.2.2.1.2.2.1 hw) ?_
      rintro r ⟨h1, t, u, h2⟩
      rw [wq_some]
      refine ⟨h1, ?_⟩
      (try dsimp only)
      rw [h2]
      exact CS_sc hc (fpl_U (fpl_U fpl_rf (by omega)) (by omega))
    · refine wq_mono (m_deep hW hm.1.2.2.1.1.1 (MS_tbM hm).1 g4 hw h47) ?_
      rintro r ⟨h1, h2⟩
      exact ⟨h1, MS_q hm (fr_mo h2 (fun t j z => by unfold qDm; omega))⟩
theorem p_later (hc : CS A σ) (hm : MS A τ) (hv : AV n A) (v w : Int32) : okQ n (f_X11_later v w σ) (f_X12_later v w τ) := by
  have hW := aW_ok hv
  have hg5 := hW.1
  obtain ⟨g1, g2, g3, g4, g5⟩ := AV_G hv
  have h9 := hc.1.2.2.1.1.2.1
  have h6 := hm.1.2.2.1.1.1.2.1
  have no : f_X11_later v w σ = some (-1, σ) → f_X12_later v w τ = some (-1, τ) → okQ n (f_X11_later v w σ) (f_X12_later v w τ) := fun h1 h2 => by
    rw [h1, h2]
    exact ⟨_, σ, τ, A, rfl, rfl, hc, hm, AV_s hv⟩
  by_cases c : inB v (aW A.p).g
  · obtain ⟨e, hi⟩ := inB_e c
    have hw := g1 (by omega)
    by_cases d : inB w 21
    · obtain ⟨d1, d2⟩ := (inB_2 (c := 20) (by omega)).mpr d
      obtain ⟨e', hn⟩ := inB_e d
      refine okQ_w (v := if rdK (aW A.p) A.G.w A.G.L v.toInt.toNat w.toInt.toNat = true then 1 else 0) (P := fun _ => True) (Q := fun _ => True) (B := A) ?_ ?_ (AV_s hv)
      · unfold f_X11_later
        rw [if_pos (by rw [c_isG v (by omega) h9]; exact c), if_neg d1, if_pos (show w ≤ (20 : Int32) from d2), wq_bind]
        refine wq_mono (c_ahead hc hv hw) ?_
        rintro s ⟨h1, h2⟩
        unfold f_X11_later_43
        rw [wq_some]
        refine ⟨?_, h1⟩
        obtain ⟨f, hf1, hf2⟩ := h2.2.1 _ hi
        (try dsimp only)
        have ef : fcG s 62 v = nI f := by
          have := cg62 (σ := s) (k := v.toInt.toNat) (by omega)
          rw [← e] at this
          rw [this]
          exact hf1
        have hfb : f < 100 := by
          rcases hf2 with h | h
          · have := h.1; omega
          · have := h.1; omega
        have ew : (w < nI f) = (w.toInt.toNat < f) := by
          rw [lt_nP w (by omega)]
          have := d.1
          exact propext ⟨fun z => by omega, fun z => by omega⟩
        rw [ef]
        by_cases q : w.toInt.toNat < f
        · have : ¬ rdK (aW A.p) A.G.w A.G.L v.toInt.toNat w.toInt.toNat = true := by
            rcases hf2 with ⟨x, y, z⟩ | ⟨x, y⟩
            · exact z _ q
            · exact y _ (by omega)
          rw [if_pos (by rw [ew]; exact q), if_neg this]
          rfl
        · have : rdK (aW A.p) A.G.w A.G.L v.toInt.toNat w.toInt.toNat = true := by
            rcases hf2 with ⟨x, y, z⟩ | ⟨x, y⟩
            · have := rdK_m hW hw y (w.toInt.toNat - f)
              rw [show f + (w.toInt.toNat - f) = w.toInt.toNat from by omega] at this
              exact this
            · omega
          rw [if_neg (by rw [ew]; exact q), if_pos this]
          rfl
      · unfold f_X12_later
        rw [if_pos (by rw [m_isG v (by omega) h6]; exact c), if_pos (show f_X12_isIn w.toInt64 (0 : Int64) (20 : Int64) τ = true by rw [show (0 : Int64) = lI 0 from rfl, show (20 : Int64) = lI 20 from rfl, m_inI w (by decide) (by decide) (by decide) (by decide)]; have := d.1; have := d.2; omega)]
        have := m_laterL hW hm.1.2.2.1.1.1 (MS_tbM hm).1 g4 hw hm.1.2.2.1.2.2.2 (by omega) hi (n := w.toInt.toNat) (by omega)
        rw [← e, ← e'] at this
        exact wq_mono this (fun r h => ⟨h.1, MS_y hm h.2⟩)
    · refine no ?_ ?_
      · unfold f_X11_later
        rw [if_pos (by rw [c_isG v (by omega) h9]; exact c)]
        by_cases d1 : w < 0
        · rw [if_pos d1]
        · rw [if_neg d1, if_neg (fun (d2 : w ≤ (20 : Int32)) => d ((inB_2 (c := 20) (by omega)).mp ⟨d1, d2⟩))]
      · unfold f_X12_later
        rw [if_pos (by rw [m_isG v (by omega) h6]; exact c), if_neg (show ¬ f_X12_isIn w.toInt64 (0 : Int64) (20 : Int64) τ = true by rw [show (0 : Int64) = lI 0 from rfl, show (20 : Int64) = lI 20 from rfl, m_inI w (by decide) (by decide) (by decide) (by decide)]; exact fun z => d ⟨z.1, by have := z.2; omega⟩)]
  · refine no ?_ ?_
    · unfold f_X11_later
      rw [if_neg (by rw [c_isG v (by omega) h9]; exact c)]
    · unfold f_X12_later
      rw [if_neg (by rw [m_isG v (by omega) h6]; exact c)]
theorem fst_F {P : Nat → Prop} {f : Nat} (h : isF P f) : fst20 P (if (20 : Int32) < nI f then (-1 : Int32) else nI f) := by
  rcases h with ⟨a, b, c⟩ | ⟨a, b⟩
  · rw [if_neg (by rw [show (20 : Int32) = nI 20 from rfl, nI_ltP (by omega) (by omega)]; omega)]
    exact Or.inl ⟨f, a, b, c, rfl⟩
  · rw [a, if_pos (by decide)]
    exact Or.inr ⟨b, rfl⟩
theorem p_learns (hc : CS A σ) (hm : MS A τ) (hv : AV n A) (v : Int32) : okQ n (f_X11_learns v σ) (f_X12_learns v τ) := by
  have hW := aW_ok hv
  have hg5 := hW.1
  obtain ⟨g1, g2, g3, g4, g5⟩ := AV_G hv
  have h9 := hc.1.2.2.1.1.2.1
  have h6 := hm.1.2.2.1.1.1.2.1
  by_cases c : inB v (aW A.p).g
  · obtain ⟨e, hi⟩ := inB_e c
    have hw := g1 (by omega)
    refine okQ_p (R := fst20 (fun n => rdK (aW A.p) A.G.w A.G.L v.toInt.toNat n = true)) (fun _ _ => fst20_u) (B := A) ?_ ?_ (AV_s hv)
    · unfold f_X11_learns
      rw [if_pos (by rw [c_isG v (by omega) h9]; exact c), wq_bind]
      refine wq_mono (c_ahead hc hv hw) ?_
      rintro s ⟨h1, h2⟩
      obtain ⟨f, hf1, hf2⟩ := h2.2.1 _ hi
      have ef : fcG s 62 v = nI f := by
        have := cg62 (σ := s) (k := v.toInt.toNat) (by omega)
        rw [← e] at this
        rw [this]
        exact hf1
      have hr := fst_F hf2
      rw [ef]
      by_cases q : (20 : Int32) < nI f
      · rw [if_pos q] at hr
        rw [if_pos q, wq_some]
        exact ⟨hr, h1⟩
      · rw [if_neg q] at hr
        rw [if_neg q, wq_some]
        exact ⟨hr, h1⟩
    · unfold f_X12_learns
      rw [if_pos (by rw [m_isG v (by omega) h6]; exact c)]
      have := m_learnsL hW hm.1.2.2.1.1.1 (MS_tbM hm).1 g4 hw hm.1.2.2.1.2.2.2 (by omega) hi
      rw [← e] at this
      exact wq_mono this (fun r h => ⟨h.1, MS_y hm h.2⟩)
  · unfold f_X11_learns f_X12_learns
    rw [if_neg (by rw [c_isG v (by omega) h9]; exact c), if_neg (by rw [m_isG v (by omega) h6]; exact c)]
    exact ⟨_, σ, τ, A, rfl, rfl, hc, hm, AV_s hv⟩
theorem p_rests (hc : CS A σ) (hm : MS A τ) (hv : AV n A) : okQ n (f_X11_rests σ) (f_X12_rests τ) := by
  have hW := aW_ok hv
  obtain ⟨g1, g2, g3, g4, g5⟩ := AV_G hv
  rcases told hc hm with ⟨-, h8, h47⟩ | ⟨p, hp, h8, h47⟩
  · unfold f_X11_rests f_X12_rests
    rw [if_pos h8, if_pos h47]
    exact ⟨_, σ, τ, A, rfl, rfl, hc, hm, AV_s hv⟩
  · have hw := AV_w hv hp
    refine okQ_p (R := fst20 (fun n => rdL (aW A.p) A.G.w A.G.L (n + 1) = rdL (aW A.p) A.G.w A.G.L n)) (fun _ _ => fst20_u) (B := A) ?_ ?_ (AV_s hv)
    · unfold f_X11_rests
      rw [if_neg h8, wq_bind]
      refine wq_mono (c_ahead hc hv hw) ?_
      rintro s ⟨h1, h2⟩
      obtain ⟨f, hf1, hf2⟩ := h2.2.2
      have hr := fst_F hf2
      rw [hf1]
      by_cases q : (20 : Int32) < nI f
      · rw [if_pos q] at hr
        rw [if_pos q, wq_some]
        exact ⟨hr, h1⟩
      · rw [if_neg q] at hr
        rw [if_neg q, wq_some]
        exact ⟨hr, h1⟩
    · unfold f_X12_rests
      rw [if_neg h47]
      exact wq_mono (m_restsL hW hm.1.2.2.1.1.1 (MS_tbM hm).1 g4 hw hm.1.2.2.1.2.2.2 (by omega)) (fun r h => ⟨h.1, MS_y hm h.2⟩)
end
