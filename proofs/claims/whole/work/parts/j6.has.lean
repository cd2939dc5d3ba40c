/-! THE PAIRS: has -/
section
variable {n : Nat} {A : aS} {σ τ : fhM}
theorem c_known0 (hc : CS A σ) (hv : AV n A) : f_J6_bitCount_0f7a4 (f_X4_knowers σ) σ = nI (pc (kb (aW A.p) (rl (aW A.p).N A.G.L) A.G.w)) := by
  have hW := aW_ok hv
  have hk := kb_lt hW (rl (aW A.p).N A.G.L) A.G.w
  rw [bcn_e]
  have e : f_X4_knowers σ = nI (kb (aW A.p) (rl (aW A.p).N A.G.L) A.G.w) := by
    have h0 := hv.2.1
    have ht := hc.1.2.1
    have hg := hc.1.2.2.1.2.2.1
    cases hp : A.p with
    | none =>
      rw [hp] at h0 ht hg
      obtain ⟨h1, -⟩ := h0
      have h9 : σ.1 56 9 = nI 0 := by
        have := hg.2.1
        rw [h1] at this
        exact this
      unfold f_X4_knowers
      rw [h9, cg74 (by decide), ht.2.2.2]
      split <;> rfl
    | some p =>
      rw [hp] at h0 hg hW
      exact c_knowers hW hg h0.2.1.1
  rw [e, pc_bcn _ (by omega)]
theorem p_has (hc : CS A σ) (hm : MS A τ) (hv : AV n A) (hn : n ≤ 1000) (v : Int32) : okQ n (Option.map (fun x => (x, σ)) (f_X11_has v σ)) (f_X12_has v τ) := by
  have hW := aW_ok hv
  obtain ⟨g1, g2, g3, g4, g5⟩ := AV_G hv
  have hH := hv.2.2.2.2.1
  have hP := (swp_P hc.1.1).1
  have hg := hc.1.2.2.1
  have hmg := hm.1.2.2.1
  have htb := hm.1.2.2.1.1
  have same : ∀ {x : Int32}, f_X11_has v σ = some x → f_X12_has v τ = some (x, τ) → okQ n (Option.map (fun x => (x, σ)) (f_X11_has v σ)) (f_X12_has v τ) := fun h1 h2 => by
    rw [h1, h2]
    exact ⟨_, σ, τ, A, rfl, rfl, hc, hm, AV_s hv⟩
  have pm : σ.1 (σ.2.2 0 6) 9 = nI (aW A.p).m := by
    have ht := hc.1.2.1
    cases hp : A.p with
    | none => rw [hp] at ht; exact ht.2.1
    | some p => rw [hp] at ht; obtain ⟨-, out, hr⟩ := ht; exact hr.2.1
  have pru : σ.1 (σ.2.2 0 6) 11 = τ.1 29 7 := by
    have ht := hc.1.2.1
    have hu := hm.1.2.1
    cases hp : A.p with
    | none => rw [hp] at ht hu; rw [ht.2.2.1, hu.2]
    | some p => rw [hp] at ht hu; obtain ⟨-, out, hr⟩ := ht; rw [hr.2.2.2.1, hu.2.1]
  by_cases c0 : v = 0
  · subst c0
    refine same (x := nI (aW A.p).m) ?_ ?_
    · unfold f_X11_has
      rw [if_pos rfl, if_pos hP, pm]
    · unfold f_X12_has
      rw [if_pos rfl, if_pos (by decide), show fhix ((5 : Int32) + 0) = 5 from by decide, htb.1.1]
  by_cases c1 : v = 1
  · subst c1
    refine same (x := nI (aW A.p).g) ?_ ?_
    · unfold f_X11_has
      rw [if_neg (by decide), if_pos rfl, hg.1.2.1]
    · unfold f_X12_has
      rw [if_neg (by decide), if_pos rfl, if_pos (by decide), show fhix ((5 : Int32) + 1) = 6 from by decide, htb.1.2.1]
  by_cases c2 : v = 2
  · subst c2
    refine same (x := τ.1 29 7) ?_ ?_
    · unfold f_X11_has
      rw [if_neg (by decide), if_neg (by decide), if_pos rfl, if_pos hP, pru]
    · unfold f_X12_has
      rw [if_neg (by decide), if_neg (by decide), if_pos rfl, if_pos (by decide), show fhix ((5 : Int32) + 2) = 7 from by decide]
  by_cases c3 : v = 3
  · subst c3
    refine same (x := nI (aW A.p).F) ?_ ?_
    · unfold f_X11_has
      rw [if_neg (by decide), if_neg (by decide), if_neg (by decide), if_pos rfl, hg.1.2.2.1]
    · unfold f_X12_has
      rw [if_neg (by decide), if_neg (by decide), if_neg (by decide), if_pos rfl, if_pos (by decide), show fhix ((5 : Int32) + 3) = 8 from by decide, htb.2.1]
  by_cases c4 : v = 4
  · subst c4
    refine same (x := nI A.G.rd) ?_ ?_
    · unfold f_X11_has
      rw [if_neg (by decide), if_neg (by decide), if_neg (by decide), if_neg (by decide), if_pos rfl, hg.2.2.1.2.2.1]
    · unfold f_X12_has
      rw [if_neg (by decide), if_neg (by decide), if_neg (by decide), if_neg (by decide), if_pos rfl, hmg.2.1.1]
  by_cases c5 : v = 5
  · subst c5
    refine same (x := nI (rl (aW A.p).N A.G.L).length) ?_ ?_
    · unfold f_X11_has
      rw [if_neg (by decide), if_neg (by decide), if_neg (by decide), if_neg (by decide), if_neg (by decide), if_pos rfl, hg.2.2.1.1]
    · unfold f_X12_has
      rw [if_neg (by decide), if_neg (by decide), if_neg (by decide), if_neg (by decide), if_neg (by decide), if_pos rfl]
      by_cases t : τ.1 0 47 = 0
      · rw [if_pos t]
        have hu := hm.1.2.1
        cases hp : A.p with
        | none => rfl
        | some p =>
          rw [hp] at hu
          rw [hu.1] at t
          exact absurd t (by decide)
      · rw [if_neg t, m_leftMany hW (MS_tbM hm).1.1 g4]
        rfl
  by_cases c6 : v = 6
  · subst c6
    refine same (x := nI (rl (aW A.p).N (aW A.p).al).length) ?_ ?_
    · unfold f_X11_has
      rw [if_neg (by decide), if_neg (by decide), if_neg (by decide), if_neg (by decide), if_neg (by decide), if_neg (by decide), if_pos rfl, hg.1.2.2.2.2.1]
    · unfold f_X12_has
      rw [if_neg (by decide), if_neg (by decide), if_neg (by decide), if_neg (by decide), if_neg (by decide), if_neg (by decide), if_pos rfl, htb.2.2.2.2.2]
  by_cases c7 : v = 7
  · subst c7
    refine okQ_w (v := nI (pc (kb (aW A.p) (rl (aW A.p).N A.G.L) A.G.w))) (P := fun _ => True) (Q := fun _ => True) (B := A) ?_ ?_ (AV_s hv)
    · unfold f_X11_has
      rw [if_neg (by decide), if_neg (by decide), if_neg (by decide), if_neg (by decide), if_neg (by decide), if_neg (by decide), if_neg (by decide), if_pos rfl, c_known0 hc hv]
      exact wq_some.mpr ⟨rfl, hc⟩
    · unfold f_X12_has
      rw [if_neg (by decide), if_neg (by decide), if_neg (by decide), if_neg (by decide), if_neg (by decide), if_neg (by decide), if_neg (by decide), if_pos rfl, wq_bind]
      refine wq_mono (m_now hW htb.1 (MS_tbM hm).1 g1) ?_
      rintro r ⟨h1, t, u, h2⟩
      have hk := kb_lt hW (rl (aW A.p).N A.G.L) A.G.w
      rw [h1, m_bits (by omega), wq_bind, wq_some, wq_some]
      refine ⟨rfl, ?_⟩
      (try dsimp only)
      rw [h2]
      exact MS_q hm (fr_qU (by unfold qDm; omega) (by unfold qDm; omega))
  by_cases c8 : v = 8
  · subst c8
    refine same (x := nI (lst40 A.G.H).length) ?_ ?_
    · unfold f_X11_has f_X6_toldCount
      rw [if_neg (by decide), if_neg (by decide), if_neg (by decide), if_neg (by decide), if_neg (by decide), if_neg (by decide), if_neg (by decide), if_neg (by decide), if_pos rfl, hg.2.2.2.1.1, show (40 : Int32) = nI 40 from rfl, nI_min (by omega) (by decide), lst40_len]
    · unfold f_X12_has
      rw [if_neg (by decide), if_neg (by decide), if_neg (by decide), if_neg (by decide), if_neg (by decide), if_neg (by decide), if_neg (by decide), if_neg (by decide), if_pos rfl, (MS_tbM hm).2.1]
  by_cases c9 : v = 9
  · subst c9
    refine same (x := nI (A.H.2 / 3)) ?_ ?_
    · unfold f_X11_has
      rw [if_neg (by decide), if_neg (by decide), if_neg (by decide), if_neg (by decide), if_neg (by decide), if_neg (by decide), if_neg (by decide), if_neg (by decide), if_neg (by decide), if_pos rfl, hc.2.2.1.1]
    · unfold f_X12_has
      rw [if_neg (by decide), if_neg (by decide), if_neg (by decide), if_neg (by decide), if_neg (by decide), if_neg (by decide), if_neg (by decide), if_neg (by decide), if_neg (by decide), if_pos rfl, hm.2.2.1.1]
  by_cases ca : v = 10
  · subst ca
    obtain ⟨p, s3, hp, s4, -⟩ := hg.2.2.2.2
    obtain ⟨x, x1, x2, x3, -⟩ := hmg.2.2.1
    refine same (x := nI A.S.length) ?_ ?_
    · unfold f_X11_has
      rw [if_neg (by decide), if_neg (by decide), if_neg (by decide), if_neg (by decide), if_neg (by decide), if_neg (by decide), if_neg (by decide), if_neg (by decide), if_neg (by decide), if_neg (by decide), if_pos rfl, s4]
    · unfold f_X12_has
      rw [if_neg (by decide), if_neg (by decide), if_neg (by decide), if_neg (by decide), if_neg (by decide), if_neg (by decide), if_neg (by decide), if_neg (by decide), if_neg (by decide), if_neg (by decide), if_pos rfl, x3]
  refine same (x := -1) ?_ ?_
  · unfold f_X11_has
    rw [if_neg c0, if_neg c1, if_neg c2, if_neg c3, if_neg c4, if_neg c5, if_neg c6, if_neg c7, if_neg c8, if_neg c9, if_neg ca]
  · unfold f_X12_has
    rw [if_neg c0, if_neg c1, if_neg c2, if_neg c3, if_neg c4, if_neg c5, if_neg c6, if_neg c7, if_neg c8, if_neg c9, if_neg ca]
end
