/-! ACTIONS: dealt anew -/
section
variable {W : gW} {G : gG} {S : List gG} {σ : fhM}
/-- the class's game lies in no place of the table 0 -/
theorem cGm_c {s : fhM} (h : cGm W G S σ) (e : ∀ t j, t ≠ 0 → s.1 t j = σ.1 t j) : cGm W G S s := by
  obtain ⟨⟨a1, a2, a3, a4, a5, a6, a7, a8, a9, b1, b2, b3⟩, h2, ⟨g1, g2, g3, g4, g5⟩, ⟨r1, r2⟩, p, s3, hp, s4, hl, hs⟩ := h
  refine ⟨⟨by rw [e _ _ (by decide)]; exact a1, by rw [e _ _ (by decide)]; exact a2, by rw [e _ _ (by decide)]; exact a3, by rw [e _ _ (by decide)]; exact a4, by rw [e _ _ (by decide)]; exact a5, fun k hk => by rw [e _ _ (by decide)]; exact a6 k hk, fun k hk => by rw [e _ _ (by decide)]; exact a7 k hk, fun r i hr hi => by rw [e _ _ (by decide)]; exact a8 r i hr hi, fun r i hr hi => by rw [e _ _ (by decide)]; exact a9 r i hr hi, fun r hr => by rw [e _ _ (by decide)]; exact b1 r hr, fun r hr ha => by rw [e _ _ (by decide)]; exact b2 r hr ha, fun k hk => by rw [e _ _ (by decide)]; exact b3 k hk⟩, fun j hj => by rw [e _ _ (by decide)]; exact h2 j hj, ⟨by rw [e _ _ (by decide)]; exact g1, by rw [e _ _ (by decide)]; exact g2, by rw [e _ _ (by decide)]; exact g3, fun k hk => by rw [e _ _ (by decide)]; exact g4 k hk, fun r hr => by rw [e _ _ (by decide)]; exact g5 r hr⟩, ⟨by rw [e _ _ (by decide)]; exact r1, fun k x hk hb => by rw [e _ _ (by decide), e _ _ (by decide), e _ _ (by decide), e _ _ (by decide)]; exact r2 k x hk hb⟩, p, by rw [e _ _ (by decide)]; exact s3, hp, by rw [e _ _ (by decide)]; exact s4, hl, fun k G2 hk => ?_⟩
  rw [show s.1 97 = σ.1 97 from funext (fun j => e _ _ (by decide))]
  exact hs k G2 hk
/-- the row dealt -/
def dlt (W : gW) (s : Nat) : Nat := (rl W.N W.al).getD (nx s / 64 % (rl W.N W.al).length) 0
def fpx (σ s : fhM) : Prop := (∀ t j, ¬ aDc t → ¬ (t = 0 ∧ j = 16) → s.1 t j = σ.1 t j ∧ s.2.2 t j = σ.2.2 t j) ∧ s.2.1 = σ.2.1
theorem c_deal (hW : wOK W) (hg : cGm W G S σ) (hc : chn G.H S) (hal : 0 < (rl W.N W.al).length) (h8 : ¬ σ.1 0 8 = 0) {s : Nat} (h16 : σ.1 0 16 = nI s) : wq (f_X11_deal σ) (fun r => r.1 = nI (dlt W s) ∧ cGm W (gNew W G (dlt W s)) (psh G S) r.2 ∧ r.2.1 0 16 = nI (nx s) ∧ fpx σ r.2 ∧ r.2.1 57 3 = 0) := by
  have hN10 := hW.2.1
  have hll := rl_len W.N W.al
  have hlt : nx s / 64 % (rl W.N W.al).length < (rl W.N W.al).length := Nat.mod_lt _ hal
  unfold f_X11_deal
  rw [if_neg h8, wq_bind]
  refine wq_mono (c_saved hW hg hc) (fun s1 z => ?_)
  obtain ⟨z1, z2⟩ := z
  have n0 : ¬ aDc 0 := aDc_n (by decide)
  have e16 : s1.1 0 16 = nI s := by rw [(z2.1 0 16 n0).1]; exact h16
  rw [z1.1.2.2.2.2.1, c_draw e16 hal (by omega), wq_bind, wq_some]
  have z3 : cGm W G (psh G S) (fhI s1 0 16 (nI (nx s))) := cGm_c z1 (fun t j ht => fhI_o ht)
  have e55 := z3.1.2.2.2.2.2.2.2.2.2.2.2 _ hlt
  dsimp only
  rw [cg54 (by omega), e55, wq_bind]
  refine wq_mono (c_begun hW z3 (dlt W s)) (fun s2 y => ?_)
  rw [wq_some]
  refine ⟨y.1.2.2.1.2.1, y.1, by rw [(y.2.1.1 0 16 n0).1, fhI_e], ⟨fun t j ht hx => ?_, by rw [y.2.1.2, fhI_2, z2.2]⟩, y.2.2⟩
  have ej : (fhI s1 0 16 (nI (nx s))).1 t j = s1.1 t j := by
    rw [fhI_r, if_neg hx]
  exact ⟨by rw [(y.2.1.1 t j ht).1, ej, (z2.1 t j ht).1], by rw [(y.2.1.1 t j ht).2, fhI_2, (z2.1 t j ht).2]⟩
end
