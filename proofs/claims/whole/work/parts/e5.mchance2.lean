/-! ACTIONS, the reference: rounds by chance, all -/
section
variable {W : gW} {G : gG} {S : List gG} {σ : fhM}
theorem m_chance (hW : wOK W) (hg : mGm W G S σ) (hw : G.w ∈ rl W.N G.L) (hi : lin W G.L) {sl s v : Nat} (hsl : σ.1 29 9 = nI sl) (hsl2 : sl ≤ 100) (hs : s < 2147483648) (h73 : σ.2.1 0 73 = lN s) (h47 : ¬ σ.1 0 47 = 0) (hv1 : 1 ≤ v) (hv2 : v ≤ 20) (hrd : G.rd + v ≤ 999) : wq (f_X12_chance (nI v) σ) (fun r => r.1 = nI (chs W sl (0, s, G) v).1 ∧ mGm W (chs W sl (0, s, G) v).2.2 (psh G S) r.2 ∧ r.2.2.1 0 73 = lN (chs W sl (0, s, G) v).2.1 ∧ fry σ r.2) := by
  unfold f_X12_chance
  rw [if_neg h47, if_pos (by rw [show (1 : Int64) = lI 1 by decide +kernel, show (20 : Int64) = lI 20 by decide +kernel, m_inI _ (by omega) (by omega) (by omega) (by omega), nI_toInt (by omega)]; omega), hg.2.1.1, nI_add, show (999 : Int32) = nI 999 from rfl, if_pos (nI_le hrd (by decide)), wq_bind]
  refine wq_mono (m_saved hg) (fun s0 z => ?_)
  obtain ⟨z1, z2⟩ := z
  have z2' := fry_f z2
  refine wq_for (R := fun k x => ∃ s1, x = (nI (chs W sl (0, s, G) k).1, nI k, s1) ∧ mGm W (chs W sl (0, s, G) k).2.2 (psh G S) s1 ∧ s1.2.1 0 73 = lN (chs W sl (0, s, G) k).2.1 ∧ (chs W sl (0, s, G) k).2.1 < 2147483648 ∧ fry σ s1) 0 v (Nat.zero_le _) ?_ ?_ ⟨s0, rfl, z1, by rw [z2.1]; exact h73, hs, z2'⟩
  · rintro k x - hk ⟨s1, rfl, y1, y2, y4, y3⟩
    (try dsimp only)
    have hI := chs_I (W := W) (sl := sl) (x := (0, s, G)) hw k
    obtain ⟨i1, _⟩ := hI
    have e9 : s1.1 29 9 = nI sl := by rw [y3.1 29 9 (by unfold aDm; omega)]; exact hsl
    have one := m_one (c := (chs W sl (0, s, G) k).1) hW y1 i1.2.2.2.1 (fun r hr => hi r (i1.2.2.2.2 r hr)) e9 hsl2 y4 y2 hk (by omega)
    refine wq_mono one (fun y w => ?_)
    obtain ⟨s2, rfl, w1, w2, w3⟩ := w
    rw [fhK_l]
    obtain ⟨_, _, _, w4⟩ := cs1_g W sl (chs W sl (0, s, G) k)
    exact ⟨s2, rfl, w1, w2, w4, fry_tr y3 w3⟩
  · rintro x ⟨s1, rfl, y1, y2, y4, y3⟩
    (try dsimp only)
    unfold f_X12_chance_47
    rw [if_pos (nI_le (Nat.le_refl _) (by omega)), wq_some, fhK_r]
    exact ⟨rfl, y1, y2, y3⟩
end
