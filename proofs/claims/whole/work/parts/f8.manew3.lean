/-! ANEW in the reference: the groups behind a round -/
section
variable {W : gW}
theorem e32 (a b : Nat) : (32 : Int32) * nI a + nI b = nI (32 * a + b) := by
  rw [show (32 : Int32) = nI 32 from rfl, pk_mul, nI_add]
theorem m_splits (hW : wOK W) {σ : fhM} (hrw : rwM' W σ) (hal : alM W σ) {n : Nat} (hn : n < 21) (hg : ∀ i, i < W.g → gpI W n i (σ.1 41)) (h40 : ∀ r, W.al r = true → σ.1 40 (1024 * n + r) = nI (kH W n r)) : wq (f_X12_splitsGroups (nI n) σ) (fun s => ∃ q3 q1, s = fhU (fhU σ 43 q3) 41 q1 ∧ ∀ i, i < W.g → gpI W (n + 1) i q1) := by
  have hg5 := hW.1
  have hN10 := hW.2.1
  have hkH : ∀ r, kH W n r < 32 := fun r => kb_lt hW _ r
  unfold f_X12_splitsGroups
  refine wq_for (R := fun i x => ∃ q3 q1, x = (nI i, fhU (fhU σ 43 q3) 41 q1) ∧ (∀ j, j < i → gpI W (n + 1) j q1) ∧ ∀ j, i ≤ j → j < W.g → gpI W n j q1) 0 W.g (Nat.zero_le _) ?_ ?_ ⟨σ.1 43, (fhU σ 43 (σ.1 43)).1 41, by rw [fhU_id (t := 41) (fun _ => rfl), fhU_id (fun _ => rfl)]; rfl, fun j hj => absurd hj (Nat.not_lt_zero _), fun j _ hj => by rw [fhU_id (fun _ => rfl)]; exact hg j hj⟩
  · rintro i x - hi ⟨q3, q0, rfl, hq, hq2⟩
    (try dsimp only)
    unfold f_X12_splitsGroups_2 f_X12_guestMany
    rw [fhU_o (show 29 ≠ 41 by decide), fhU_o (show 29 ≠ 43 by decide), hrw.2.1, if_neg (nI_ge hi (by omega))]
    refine wq_for (R := fun k x => ∃ q3, x = (nI k, fhU (fhU σ 43 q3) 41 q0) ∧ ∀ v, v < k → q3 v = -1) 0 (32 * W.N) (Nat.zero_le _) ?_ ?_ ⟨q3, rfl, fun v hv => absurd hv (Nat.not_lt_zero _)⟩
    · rintro k x - hk ⟨q3, rfl, h3⟩
      (try dsimp only)
      unfold f_X12_splitsGroups_12
      rw [fhU_o (show 0 ≠ 41 by decide), fhU_o (show 0 ≠ 43 by decide), hrw.2.2.1, show (32 : Int32) = nI 32 from rfl, pk_mul, if_neg (nI_ge hk (by omega)), if_pos (ph_in1 (by omega) (by omega)), ph_ix (by omega), fhU_IO (by decide), fhU_I, nI_1, wq_some, fhK_l]
      refine ⟨_, rfl, fun v hv => ?_⟩
      (try dsimp only)
      by_cases q : v = k
      · rw [if_pos q]
      · rw [if_neg q]
        exact h3 v (by omega)
    · rintro x ⟨q3, rfl, h3⟩
      (try dsimp only)
      unfold f_X12_splitsGroups_12
      rw [fhU_o (show 0 ≠ 41 by decide), fhU_o (show 0 ≠ 43 by decide), hrw.2.2.1, show (32 : Int32) = nI 32 from rfl, pk_mul, if_pos (nI_le (Nat.le_refl _) (by omega)), wq_map]
      have g0 := hq2 i (Nat.le_refl _) hi
      refine wq_for (R := fun x y => ∃ q3 q1, y = (nI x, fhU (fhU σ 43 q3) 41 q1) ∧ (∀ j, ¬ (1024 * i ≤ j ∧ j < 1024 * i + x) → q1 j = q0 j) ∧ ldI W (fun r => 32 * gN q0 i r + kH W n r) (32 * W.N) x i q3 q1) 0 W.N (Nat.zero_le _) ?_ ?_ ⟨q3, q0, rfl, fun _ _ => rfl, fun k hk => Or.inl ⟨h3 k hk, fun r hr => absurd hr (Nat.not_lt_zero _)⟩⟩
      · rintro x y - hx ⟨q3, q1, rfl, hqq, hld⟩
        (try dsimp only)
        unfold f_X12_splitsGroups_38 f_X12_splitsGroups_126
        have hal1 := alM_U (alM_U (t := 43) (g := q3) hal (by decide)) (t := 41) (g := q1) (by decide)
        rw [fhU_o (show 0 ≠ 41 by decide), fhU_o (show 0 ≠ 43 by decide), hrw.2.2.1, if_neg (nI_ge hx (by omega)), if_pos (ph_in1 (by omega) (by omega)), ph_ix (by omega), hal1 x hx]
        by_cases q : W.al x = true
        · obtain ⟨ge, gl⟩ := gN_e hW g0 q
          have hk := hkH x
          have e40 : (fhU (fhU σ 43 q3) 41 q1).1 40 (1024 * n + x) = nI (kH W n x) := by
            rw [fhU_o (by decide), fhU_o (by decide)]
            exact h40 x q
          have hld2 := ld_new (W := W) (K := fun r => 32 * gN q0 i r + kH W n r) (B := 32 * W.N) (x := x) (i := i) (q3 := q3) (q1 := q1) hld q (by omega)
          have hld3 := ld_old (W := W) (K := fun r => 32 * gN q0 i r + kH W n r) (B := 32 * W.N) (x := x) (i := i) (q3 := q3) (q1 := q1) hld
          (try dsimp only at hld2 hld3)
          unfold fhlet
          (try dsimp only)
          rw [if_neg (by rw [al01]; exact not_not_intro q), e1024, e1024, if_pos (in2 (by omega) (by omega) (by decide) (by decide)), ph_ix (k := 1024 * i + x) (by omega), ph_ix (k := 1024 * n + x) (by omega), e40, fhU_e, hqq (1024 * i + x) (by omega), ge, e32]
          generalize hw : 32 * gN q0 i x + kH W n x = w at hld2 hld3
          have hwB : w < 32 * W.N := by omega
          rw [if_pos (ph_in1 (by omega) (by omega)), ph_ix (k := w) (by omega), fhU_o (show 43 ≠ 41 by decide), fhU_e]
          unfold f_X12_splitsGroups_107 f_X12_splitsGroups_126
          by_cases m : q3 w = -1
          · rw [if_pos m, if_pos (ph_in1 (by omega) (by omega)), e1024, if_pos (in2 (by omega) (by omega) (by decide) (by decide)), ph_ix (k := 1024 * i + x) (by omega), ph_ix (k := w) (by omega), fhU_IO (by decide), fhU_I, fhU_o (show 43 ≠ 41 by decide), fhI_e, fhU_I, nI_1 x, wq_some, fhK_l]
            refine ⟨_, _, rfl, fun j hj => ?_, hld2 m hwB⟩
            (try dsimp only)
            rw [if_neg (by omega)]
            exact hqq j (by omega)
          · rw [if_neg m, e1024, if_pos (in2 (by omega) (by omega) (by decide) (by decide)), ph_ix (k := 1024 * i + x) (by omega), ph_ix (k := w) (by omega), fhU_I, fhU_o (show 43 ≠ 41 by decide), fhU_e, nI_1 x, wq_some, fhK_l]
            refine ⟨_, _, rfl, fun j hj => ?_, hld3 m hwB⟩
            (try dsimp only)
            rw [if_neg (by omega)]
            exact hqq j (by omega)
        · rw [if_pos (by rw [al01]; exact q), nI_1 x, wq_some, fhK_l]
          exact ⟨q3, q1, rfl, fun j hj => hqq j (by omega), ld_no hld q⟩
      · rintro y ⟨q3, q1, rfl, hqq, hld⟩
        (try dsimp only)
        unfold f_X12_splitsGroups_38
        rw [fhU_o (show 0 ≠ 41 by decide), fhU_o (show 0 ≠ 43 by decide), hrw.2.2.1, if_pos (nI_le (Nat.le_refl _) (by omega)), nI_1, wq_some, fhK_r, fhK_r, fhK_l]
        refine ⟨q3, q1, rfl, fun j hj => ?_, fun j hj hj2 => ?_⟩
        · rcases Nat.lt_or_ge j i with c | c
          · exact gpI_cg hW (hq j c) (fun r hr => hqq _ (by omega))
          · have : j = i := by omega
            rw [this]
            exact gpI_s hW g0 hld
        · exact gpI_cg hW (hq2 j (by omega) hj2) (fun r hr => hqq _ (by omega))
  · rintro x ⟨q3, q1, rfl, hq, hq2⟩
    (try dsimp only)
    unfold f_X12_splitsGroups_2 f_X12_guestMany
    rw [fhU_o (show 29 ≠ 41 by decide), fhU_o (show 29 ≠ 43 by decide), hrw.2.1, if_pos (nI_le (Nat.le_refl _) (by omega)), wq_some, fhK_r]
    exact ⟨q3, q1, rfl, hq⟩
end
