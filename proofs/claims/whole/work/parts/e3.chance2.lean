/-! ACTIONS, the class: rounds by chance -/
theorem fpx_tr {a b c : fhM} (h1 : fpx a b) (h2 : fpx b c) : fpx a c := ⟨fun t j x y => ⟨by rw [(h2.1 t j x y).1, (h1.1 t j x y).1], by rw [(h2.1 t j x y).2, (h1.1 t j x y).2]⟩, by rw [h2.2, h1.2]⟩
theorem fpx_f {a b : fhM} (h : fpl aDc a b) : fpx a b := ⟨fun t j x _ => h.1 t j x, h.2⟩
theorem hP_n {P : Nat} (h : fhiP P = true) : P < 56 ∧ P ≠ 0 := by
  unfold fhiP at h
  rw [Bool.or_eq_true] at h
  rcases h with h | h <;> rw [Nat.eq_of_beq_eq_true h] <;> decide
section
variable {W : gW} {G : gG} {S : List gG} {σ : fhM}
theorem c_chance (hW : wOK W) (hg : cGm W G S σ) (hc : chn G.H S) (hw : G.w ∈ rl W.N G.L) (hH : G.H.length < 2 ^ 29) {sl s v : Nat} (hP : fhiP (σ.2.2 0 6) = true) (hsl : σ.1 (σ.2.2 0 6) 13 = nI sl) (hsl2 : sl ≤ 100) (h16 : σ.1 0 16 = nI s) (h8 : ¬ σ.1 0 8 = 0) (hv1 : 1 ≤ v) (hv2 : v ≤ 20) (hrd : G.rd + v ≤ 999) : wq (f_X11_chance (nI v) σ) (fun r => r.1 = nI (chs W sl (0, s, G) v).1 ∧ cGm W (chs W sl (0, s, G) v).2.2 (psh G S) r.2 ∧ r.2.1 0 16 = nI (chs W sl (0, s, G) v).2.1 ∧ fpx σ r.2 ∧ r.2.1 57 3 = 0) := by
  have n0 : ¬ aDc 0 := aDc_n (by decide)
  obtain ⟨p1, p2⟩ := hP_n hP
  unfold f_X11_chance
  rw [if_neg h8, show (1 : Int32) = nI 1 from rfl, if_neg (nI_nlt hv1 (by omega)), show (20 : Int32) = nI 20 from rfl, if_neg (nI_nlt hv2 (by omega)), hg.2.2.1.2.2.1, nI_add, show (999 : Int32) = nI 999 from rfl, if_pos (nI_le hrd (by decide)), wq_bind]
  refine wq_mono (c_saved hW hg hc) (fun s0 z => ?_)
  obtain ⟨z1, z2⟩ := z
  have z2' := fpx_f z2
  refine wq_for (R := fun k x => ∃ s1, x = (nI (chs W sl (0, s, G) k).1, nI k, s1) ∧ cGm W (chs W sl (0, s, G) k).2.2 (psh G S) s1 ∧ s1.1 0 16 = nI (chs W sl (0, s, G) k).2.1 ∧ fpx σ s1 ∧ (k = 0 ∨ s1.1 57 3 = 0)) 0 v (Nat.zero_le _) ?_ ?_ ⟨s0, rfl, z1, by rw [(z2.1 0 16 n0).1]; exact h16, z2', Or.inl rfl⟩
  · rintro k x - hk ⟨s1, rfl, y1, y2, y3, -⟩
    (try dsimp only)
    have hI := chs_I (W := W) (sl := sl) (x := (0, s, G)) hw k
    obtain ⟨i1, _⟩ := hI
    have e6 : s1.2.2 0 6 = σ.2.2 0 6 := (y3.1 0 6 n0 (fun q => absurd q.2 (by decide))).2
    have e13 : s1.1 (σ.2.2 0 6) 13 = nI sl := by
      rw [(y3.1 _ 13 (aDc_n p1) (fun q => p2 q.1)).1]
      exact hsl
    have hlen : (chs W sl (0, s, G) k).2.2.H.length < 2 ^ 30 := by
      obtain ⟨_, _, ⟨t, e, ht⟩, _, _⟩ := i1
      rw [e, List.length_append, ht]
      have : (0, s, G).2.2.H.length = G.H.length := rfl
      omega
    have one := c_one (c := (chs W sl (0, s, G) k).1) hW y1 (chI_c i1 (by omega) hc) psh_len psh_ne i1.2.2.2.1 hlen (by rw [e6]; exact hP) (by rw [e6]; exact e13) hsl2 y2 hk (by omega)
    refine wq_mono one (fun y w => ?_)
    obtain ⟨s2, rfl, w1, w2, w3, w4⟩ := w
    rw [fhK_l]
    exact ⟨s2, rfl, w1, w2, fpx_tr y3 w3, Or.inr w4⟩
  · rintro x ⟨s1, rfl, y1, y2, y3, y4⟩
    (try dsimp only)
    unfold f_X11_chance_54
    rw [if_pos (nI_le (Nat.le_refl _) (by omega)), wq_some, fhK_r]
    exact ⟨rfl, y1, y2, y3, y4.resolve_left (by omega)⟩
end
