/-! ACTIONS, the reference: dealt anew -/
section
variable {W : gW} {G : gG} {S : List gG} {σ : fhM}
theorem mGm_1 {s : fhM} (h : mGm W G S σ) (e : s.1 = σ.1) : mGm W G S s := by
  unfold mGm mtb rwM' stkM at *
  rw [e]
  exact h
theorem m_deal (hW : wOK W) (hg : mGm W G S σ) (hal : 0 < (rl W.N W.al).length) (h47 : ¬ σ.1 0 47 = 0) {s : Nat} (hs : s < 2147483648) (h73 : σ.2.1 0 73 = lN s) : wq (f_X12_deal σ) (fun r => r.1 = nI (dlt W s) ∧ mGm W (gNew W G (dlt W s)) (psh G S) r.2 ∧ (∀ t j, ¬ aDm t j → r.2.1 t j = σ.1 t j) ∧ r.2.2 = (fhJ σ 0 73 (lN (nx s))).2) := by
  have hN10 := hW.2.1
  have hll := rl_len W.N W.al
  have hlt : nx s / 64 % (rl W.N W.al).length < (rl W.N W.al).length := Nat.mod_lt _ hal
  unfold f_X12_deal
  rw [if_neg h47, wq_bind]
  refine wq_mono (m_saved hg) (fun s1 z => ?_)
  obtain ⟨z1, z2⟩ := z
  have e73 : s1.2.1 0 73 = lN s := by rw [z2.1]; exact h73
  have e53 := z1.1.2.2.2.2.2
  rw [e53, m_draw e73 hs hal (by omega), wq_bind, wq_some]
  dsimp only
  have z3 : mGm W G (psh G S) (fhJ s1 0 73 (lN (nx s))) := mGm_1 z1 rfl
  have hJ2 : (fhJ s1 0 73 (lN (nx s))).2 = (fhJ σ 0 73 (lN (nx s))).2 := by
    unfold fhJ
    rw [z2.1]
  have hJ1 : (fhJ s1 0 73 (lN (nx s))).1 = s1.1 := rfl
  generalize fhJ s1 0 73 (lN (nx s)) = s3 at z3 hJ2 hJ1 ⊢
  have h37 := z3.1.2.2.1
  unfold dlt
  generalize nx s / 64 % (rl W.N W.al).length = d at hlt
  refine wq_for (R := fun k x => x = (nI (d - (rl k W.al).length), nI k) ∧ (rl k W.al).length ≤ d) 0 W.N (Nat.zero_le _) ?_ ?_ ⟨rfl, Nat.zero_le _⟩
  · rintro k x - hk ⟨rfl, hle⟩
    (try dsimp only)
    unfold f_X12_deal_28 f_X12_deal_41 f_X12_deal_53
    rw [ph_in1 (show k < 2 ^ 31 by omega) (show k < 1024 by omega), if_pos rfl, if_pos rfl, ph_ix (by omega), h37 k hk, nI_1]
    by_cases q : W.al k = true
    · rw [if_pos q, if_neg (show ¬ nI 1 = 0 by decide), if_neg (show ¬ nI 1 = 0 by decide)]
      by_cases q2 : (rl k W.al).length < d
      · rw [if_pos (by rw [show (0 : Int32) = nI 0 from rfl]; exact nI_lt (by omega) (by omega)), nI_decm (by omega), wq_some, fhK_l, rl_s, if_pos q, List.length_append, List.length_singleton]
        exact ⟨by rw [show d - (rl k W.al).length - 1 = d - ((rl k W.al).length + 1) by omega], by omega⟩
      · rw [if_neg (by rw [show d - (rl k W.al).length = 0 by omega]; decide), wq_bind]
        have ek : (rl W.N W.al).getD d 0 = k := by
          obtain ⟨t, et⟩ := rl_pre (n := W.N) (k := k + 1) (L := W.al) (by omega)
          rw [rl_s, if_pos q] at et
          rw [et, show d = (rl k W.al).length by omega, List.getD_eq_getElem?_getD, List.append_assoc, List.getElem?_append_right (Nat.le_refl _), Nat.sub_self]
          rfl
        rw [ek]
        refine wq_mono (m_worn hW z3) (fun s2 y => ?_)
        rw [wq_some, fhK_r]
        exact ⟨rfl, y.1, fun t j ht => by rw [y.2.2 t j ht, hJ1, z2.2 t j ht], by rw [y.2.1, hJ2]⟩
    · rw [if_neg q, if_pos (show nI 0 = 0 from rfl), if_pos (show nI 0 = 0 from rfl), ite_self, wq_some, fhK_l, rl_s, if_neg q]
      exact ⟨rfl, hle⟩
  · rintro x ⟨rfl, hle⟩
    exact absurd hle (by omega)
end
