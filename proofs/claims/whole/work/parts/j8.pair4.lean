/-! THE PAIRS: fewest facts; what would be anew -/
section
variable {n : Nat} {A : aS} {σ τ : fhM}
theorem c_few (hc : CS A σ) (hv : AV n A) (hw : A.G.w ∈ rl (aW A.p).N A.G.L) {i : Nat} (hi : i < (aW A.p).g) {o : Option Nat} (ho : ∀ j, o = some j → j < (aW A.p).g) : wq (f_X4_fewestFacts (nI i) (oI o) σ) (fun r => r.1 = oI (fwst (wantF (aW A.p) (rl (aW A.p).N A.G.L) A.G.w i o) (2 ^ (aW A.p).F)) ∧ CS A r.2) := by
  obtain ⟨g1, g2, g3, g4, g5⟩ := AV_G hv
  have htr := hc.1.2.2.1.1.2.2.2.2.2.2.2.2.2.2.1
  refine wq_mono (c_fewest (aW_ok hv) (tbF_rw hc.1.2.2.1.1) hc.1.2.2.1.1.2.2.1 hc.1.2.2.1.2.2.1 hw (fun r hr => htr r (rl_lt r hr) (g3 r (rl_mem.mp hr).2)) hi ho) ?_
  rintro r ⟨h1, h2⟩
  exact ⟨h1, CS_sc hc (fpl_mo h2 (fun t z => by omega))⟩
theorem p_hints (hc : CS A σ) (hm : MS A τ) (hv : AV n A) (v : Int32) : okQ n (f_X11_hints v σ) (Option.map (fun x => (x, τ)) (f_X12_hints v τ)) := by
  have hW := aW_ok hv
  have hg5 := hW.1
  obtain ⟨g1, g2, g3, g4, g5⟩ := AV_G hv
  have h9 := hc.1.2.2.1.1.2.1
  have hmt := hm.1.2.2.1.1
  unfold f_X11_hints f_X12_hints
  by_cases c : inB v (aW A.p).g
  · obtain ⟨e, hi⟩ := inB_e c
    have hw := g1 (by omega)
    rw [if_pos (by rw [c_isG v (by omega) h9]; exact c), if_pos (by rw [m_isG v (by omega) hmt.1.2.1]; exact c)]
    generalize v.toInt.toNat = i at e hi
    subst e
    rw [show (-1 : Int32) = oI none from rfl, m_fewest hW hmt.1 hmt.2.1 (MS_tbM hm).1 hw hmt.2.2.2.1 hi (fun j hj => by cases hj)]
    refine okQ_w (v := oI (fwst (wantF (aW A.p) (rl (aW A.p).N A.G.L) A.G.w i none) (2 ^ (aW A.p).F))) (P := fun _ => True) (Q := fun _ => True) (B := A) ?_ (wq_some.mpr ⟨rfl, hm⟩) (AV_s hv)
    rw [wq_bind]
    refine wq_mono (c_few hc hv hw hi (o := none) (fun j hj => by cases hj)) ?_
    rintro r h
    rw [wq_some]
    exact h
  · rw [if_neg (by rw [c_isG v (by omega) h9]; exact c), if_neg (by rw [m_isG v (by omega) hmt.1.2.1]; exact c)]
    exact ⟨_, σ, τ, A, rfl, rfl, hc, hm, AV_s hv⟩
theorem p_secret (hc : CS A σ) (hm : MS A τ) (hv : AV n A) (v w : Int32) : okQ n (f_X11_secret v w σ) (Option.map (fun x => (x, τ)) (f_X12_secret v w τ)) := by
  have hW := aW_ok hv
  have hg5 := hW.1
  obtain ⟨g1, g2, g3, g4, g5⟩ := AV_G hv
  have h9 := hc.1.2.2.1.1.2.1
  have hmt := hm.1.2.2.1.1
  unfold f_X11_secret f_X12_secret
  have no : ¬ (inB v (aW A.p).g ∧ inB w (aW A.p).g ∧ v ≠ w) → f_X11_isPair v w σ ≠ true := fun h z => h (by rw [c_isPr v w (by omega) h9] at z; exact z)
  by_cases c : inB v (aW A.p).g
  · rw [if_pos (c := f_X12_isGuest v.toInt64 τ = true) (by rw [m_isG v (by omega) hmt.1.2.1]; exact c)]
    by_cases d : inB w (aW A.p).g
    · rw [if_pos (c := f_X12_isGuest w.toInt64 τ = true) (by rw [m_isG w (by omega) hmt.1.2.1]; exact d)]
      by_cases x : v = w
      · rw [if_pos x, if_neg (no (fun z => z.2.2 x))]
        exact ⟨_, σ, τ, A, rfl, rfl, hc, hm, AV_s hv⟩
      · rw [if_neg x, if_pos (by rw [c_isPr v w (by omega) h9]; exact ⟨c, d, x⟩)]
        obtain ⟨e, hi⟩ := inB_e c
        obtain ⟨e', hj⟩ := inB_e d
        have hw := g1 (by omega)
        generalize v.toInt.toNat = i at e hi
        generalize w.toInt.toNat = j at e' hj
        subst e
        subst e'
        rw [show nI j = oI (some j) from rfl, m_fewest hW hmt.1 hmt.2.1 (MS_tbM hm).1 hw hmt.2.2.2.1 hi (fun k hk => by cases hk; exact hj)]
        refine okQ_w (v := oI (fwst (wantF (aW A.p) (rl (aW A.p).N A.G.L) A.G.w i (some j)) (2 ^ (aW A.p).F))) (P := fun _ => True) (Q := fun _ => True) (B := A) ?_ (wq_some.mpr ⟨rfl, hm⟩) (AV_s hv)
        rw [wq_bind]
        refine wq_mono (c_few hc hv hw hi (o := some j) (fun k hk => by cases hk; exact hj)) ?_
        rintro r h
        rw [wq_some]
        exact h
    · rw [if_neg (c := f_X12_isGuest w.toInt64 τ = true) (by rw [m_isG w (by omega) hmt.1.2.1]; exact d), if_neg (no (fun z => d z.2.1))]
      exact ⟨_, σ, τ, A, rfl, rfl, hc, hm, AV_s hv⟩
  · rw [if_neg (c := f_X12_isGuest v.toInt64 τ = true) (by rw [m_isG v (by omega) hmt.1.2.1]; exact c), if_neg (no (fun z => c z.1))]
    exact ⟨_, σ, τ, A, rfl, rfl, hc, hm, AV_s hv⟩
theorem CS_an {s : fhM} (h : CS A σ) (hf : anX σ s) (ha : anC (aW A.p) s) : CS A s := by
  have e : ∀ t j, ¬ (anD t ∨ t = 92) → s.1 t j = σ.1 t j ∧ s.2.2 t j = σ.2.2 t j := fun t j z => hf.1.1 t j z
  refine ⟨CS0_q h.1 (fun t j z => (e t j (by unfold kpC at z; unfold anD; omega)).1) (fun j => (e 0 j (by unfold anD; omega)).2) (ahF_k h.1.2.2.2.1 (fun t j z => (e t j (by unfold anD; omega)).1)) ha, CS1_k h.2 (fun t j z => ?_)⟩
  by_cases c : t = 76
  · subst c
    have : j = 13 := by unfold kpD at z; omega
    subst this
    exact hf.2 13 (by decide) (by decide) (by decide) (by decide)
  · exact (e t j (by unfold kpD at z; unfold anD; omega)).1
theorem al_ne (hv : AV n A) : (0 < (aW A.p).g → rl (aW A.p).N (aW A.p).al ≠ []) ∧ (∀ p, A.p = some p → rl (aW A.p).N (aW A.p).al ≠ []) := by
  have hW := aW_ok hv
  obtain ⟨g1, g2, g3, g4, g5⟩ := AV_G hv
  have key : A.G.w ∈ rl (aW A.p).N A.G.L → rl (aW A.p).N (aW A.p).al ≠ [] := fun hw z => by
    have := al_rl hW (g3 _ (rl_mem.mp hw).2)
    rw [z] at this
    cases this
  exact ⟨fun h => key (g1 h), fun p hp => key (AV_w hv hp)⟩
theorem p_slowest (hc : CS A σ) (hm : MS A τ) (hv : AV n A) (v w : Int32) : okQ n (f_X11_slowest v w σ) (Option.map (fun x => (x, τ)) (f_X12_slowest v w τ)) := by
  have hW := aW_ok hv
  have hmt := hm.1.2.2.1.1
  rw [m_slowest hW hmt.1.2.1 hmt.1.2.2.1 hmt.2.2.1 hm.1.2.2.2 v w]
  exact okQ_w (v := slwA (aW A.p) v w) (P := fun _ => True) (Q := fun _ => True) (B := A) (wq_mono (c_slowest hW hc.1.2.2.1.1 hc.1.2.2.1.2.1 (al_ne hv).1 hc.1.2.2.2.2 v w) (fun r h => ⟨h.1, CS_an hc (anX_P h.2.2) h.2.1⟩)) (wq_some.mpr ⟨rfl, hm⟩) (AV_s hv)
theorem p_odds (hc : CS A σ) (hm : MS A τ) (hv : AV n A) (v w : Int32) : okQ n (f_X11_odds v w σ) (Option.map (fun x => (x, τ)) (f_X12_odds v w τ)) := by
  have hW := aW_ok hv
  have hmt := hm.1.2.2.1.1
  rw [m_odds hW hmt.1.2.1 hmt.1.2.2.1 hmt.2.2.1 hm.1.2.2.2 v w]
  exact okQ_w (v := oddA (aW A.p) v w) (P := fun _ => True) (Q := fun _ => True) (B := A) (wq_mono (c_odds hW hc.1.2.2.1.1 hc.1.2.2.1.2.1 (al_ne hv).1 hc.1.2.2.2.2 v w) (fun r h => ⟨h.1, CS_an hc (anX_P h.2.2) h.2.1⟩)) (wq_some.mpr ⟨rfl, hm⟩) (AV_s hv)
theorem p_could (hc : CS A σ) (hm : MS A τ) (hv : AV n A) (v : Int32) : okQ n (f_X11_could v σ) (Option.map (fun x => (x, τ)) (f_X12_could v τ)) := by
  have hW := aW_ok hv
  have hmt := hm.1.2.2.1.1
  have hH := hv.2.2.2.2.2.1
  rw [m_could hW hmt.1 hmt.2.2.1 hm.1.2.2.2 hm.2.2.1 hH v]
  exact okQ_w (v := couA (aW A.p) A.H v) (P := fun _ => True) (Q := fun _ => True) (B := A) (wq_mono (c_could hW hc.1.2.2.1.1 hc.1.2.2.1.2.1 (al_ne hv).1 hc.1.2.2.2.2 hc.2.2.1 hH v) (fun r h => ⟨h.1, CS_an hc h.2.2 h.2.1⟩)) (wq_some.mpr ⟨rfl, hm⟩) (AV_s hv)
theorem p_tells (hc : CS A σ) (hm : MS A τ) (hv : AV n A) (v : Int32) : okQ n (f_X11_tells v σ) (Option.map (fun x => (x, τ)) (f_X12_tells v τ)) := by
  have hW := aW_ok hv
  have hmt := hm.1.2.2.1.1
  have hH := hv.2.2.2.2.2.1
  have h47 : τ.1 0 47 = 0 → (aW A.p).g = 0 := fun h => by
    rcases told hc hm with ⟨hp, -, -⟩ | ⟨p, hp, -, h2⟩
    · rw [hp]
      rfl
    · exact absurd h h2
  rw [m_tells hW hmt.1.2.1 hmt.1.2.2.1 hmt.2.2.1 hm.1.2.2.2 hm.2.2.1 hH h47 v]
  exact okQ_w (v := tlsA (aW A.p) A.H v) (P := fun _ => True) (Q := fun _ => True) (B := A) (wq_mono (c_tells hW hc.1.2.2.1.1 hc.1.2.2.1.2.1 (al_ne hv).1 hc.1.2.2.2.2 hc.2.2.1 hH v) (fun r h => ⟨h.1, CS_an hc h.2.2 h.2.1⟩)) (wq_some.mpr ⟨rfl, hm⟩) (AV_s hv)
theorem p_fits (hc : CS A σ) (hm : MS A τ) (hv : AV n A) (v : Int32) : okQ n (f_X11_fits v σ) (Option.map (fun x => (x, τ)) (f_X12_fits v τ)) := by
  have hW := aW_ok hv
  have hmt := hm.1.2.2.1.1
  have hH := hv.2.2.2.2.2.1
  rcases told hc hm with ⟨-, h8, h47⟩ | ⟨p, hp, h8, h47⟩
  · unfold f_X11_fits f_X12_fits
    rw [if_pos h8, if_pos h47]
    exact ⟨_, σ, τ, A, rfl, rfl, hc, hm, AV_s hv⟩
  · rw [m_fits hW hmt.1.2.2.1 hmt.2.2.1 hm.1.2.2.2 hm.2.2.1 hH h47 v]
    exact okQ_w (v := ftsA (aW A.p) A.H v) (P := fun _ => True) (Q := fun _ => True) (B := A) (wq_mono (c_fits hW hc.1.2.2.1.1 hc.1.2.2.1.2.1 ((al_ne hv).2 p hp) hc.1.2.2.2.2 hc.2.2.1 hH h8 v) (fun r h => ⟨h.1, CS_an hc h.2.2 h.2.1⟩)) (wq_some.mpr ⟨rfl, hm⟩) (AV_s hv)
end
