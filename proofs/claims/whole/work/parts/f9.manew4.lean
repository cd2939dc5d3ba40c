/-! ANEW in the reference: one round -/
def gW2 (W : gW) (q1 : Nat → Int32) : gW := (W.1, fun r j => gN q1 j r, W.2.2)
section
variable {W : gW}
theorem mskG_e (hW : wOK W) {n i : Nat} {q1 : Nat → Int32} (hg : gpI W n i q1) {r : Nat} (hr : W.al r = true) : msk (gW2 W q1) (rl W.N W.al) i (gN q1 i r) = msk W (rl W.N (tl W n r)) i (W.vw r i) := by
  have hN := hW.2.1
  apply Nat.eq_of_testBit_eq
  intro b
  rw [Bool.eq_iff_iff, msk_bit, msk_bit]
  obtain ⟨a1, a2⟩ := gN_e hW hg hr
  have key : ∀ x, W.al x = true → (gN q1 i x = gN q1 i r ↔ W.vw x i = W.vw r i ∧ tl W n r x = true) := fun x hx => by
    obtain ⟨b1, b2⟩ := gN_e hW hg hx
    have := hg.2 r x hr hx
    rw [a1, b1, nI_e (by omega) (by omega)] at this
    exact ⟨fun z => ⟨(this.mp z.symm).1.symm, (this.mp z.symm).2⟩, fun z => (this.mpr ⟨z.1.symm, z.2⟩).symm⟩
  constructor
  · rintro ⟨x, hx, h1, h2⟩
    have hx2 := rl_mem.mp hx
    obtain ⟨k1, k2⟩ := (key x hx2.2).mp h1
    exact ⟨x, rl_mem.mpr ⟨hx2.1, k2⟩, k1, h2⟩
  · rintro ⟨x, hx, h1, h2⟩
    have hx2 := rl_mem.mp hx
    have hxa := tl_al hW n hx2.2
    exact ⟨x, al_rl hW hxa, (key x hxa).mpr ⟨h1, hx2.2⟩, h2⟩
theorem m_laysRound (hW : wOK W) {σ : fhM} (hrw : rwM' W σ) (hal : alM W σ) {n : Nat} (hn : n < 21) (hg : ∀ i, i < W.g → gpI W n i (σ.1 41)) : wq (f_X12_laysRound (nI n) σ) (fun s => ∃ t u, s = fhU (fhU σ 40 t) 42 u ∧ (∀ j, ¬ (1024 * n ≤ j ∧ j < 1024 * n + 1024) → t j = σ.1 40 j) ∧ ∀ r, W.al r = true → t (1024 * n + r) = nI (kH W n r)) := by
  have hg5 := hW.1
  have hN10 := hW.2.1
  unfold f_X12_laysRound
  refine wq_for (R := fun k x => ∃ t, x = (nI k, fhU σ 40 t) ∧ (∀ j, ¬ (1024 * n ≤ j ∧ j < 1024 * n + 1024) → t j = σ.1 40 j) ∧ ∀ r, r < k → t (1024 * n + r) = 0) 0 W.N (Nat.zero_le _) ?_ ?_ ⟨σ.1 40, by rw [fhU_id (fun _ => rfl)]; rfl, fun _ _ => rfl, fun r hr => absurd hr (Nat.not_lt_zero _)⟩
  · rintro k x - hk ⟨t, rfl, t1, t2⟩
    (try dsimp only)
    unfold f_X12_laysRound_2
    rw [fhU_o (show 0 ≠ 40 by decide), hrw.2.2.1, if_neg (nI_ge hk (by omega)), e1024, if_pos (ph_in1 (by omega) (by omega)), ph_ix (by omega), fhU_I, nI_1, wq_some, fhK_l]
    refine ⟨_, rfl, fun j hj => ?_, fun r hr => ?_⟩
    · (try dsimp only)
      rw [if_neg (by omega)]
      exact t1 j hj
    · (try dsimp only)
      by_cases q : r = k
      · rw [if_pos (by rw [q])]
      · rw [if_neg (by omega)]
        exact t2 r (by omega)
  · rintro x ⟨t0, rfl, t01, t02⟩
    (try dsimp only)
    unfold f_X12_laysRound_2
    rw [fhU_o (show 0 ≠ 40 by decide), hrw.2.2.1, if_pos (nI_le (Nat.le_refl _) (by omega)), wq_map]
    refine wq_for (R := fun i x => ∃ t u, x = (nI i, fhU (fhU σ 40 t) 42 u) ∧ (∀ j, ¬ (1024 * n ≤ j ∧ j < 1024 * n + 1024) → t j = σ.1 40 j) ∧ ∀ r, W.al r = true → t (1024 * n + r) = nI (kbN W (rl W.N (tl W n r)) r i)) 0 W.g (Nat.zero_le _) ?_ ?_ ⟨t0, (fhU σ 40 t0).1 42, by rw [fhU_id (t := 42) (fun _ => rfl)]; rfl, t01, fun r hr => t02 r (hW.2.2.2.2.2.2.1 r hr)⟩
    · rintro i x - hi ⟨t, u, rfl, t1, t2⟩
      (try dsimp only)
      unfold f_X12_laysRound_31 f_X12_guestMany
      have e52 : ∀ t u, (fhU (fhU σ 40 t) 42 u).1 0 52 = nI W.N := fun t u => by rw [fhU_o (by decide), fhU_o (by decide)]; exact hrw.2.2.1
      have al1 : ∀ t u, alM W (fhU (fhU σ 40 t) 42 u) := fun t u => alM_U (alM_U hal (by decide)) (by decide)
      have rw1 : ∀ t u, rwM' W (fhU (fhU σ 40 t) 42 u) := fun t u => rwM'_U (rwM'_U hrw (by decide) (by decide) (by decide)) (by decide) (by decide) (by decide)
      have e41 : ∀ t u j, (fhU (fhU σ 40 t) 42 u).1 41 j = σ.1 41 j := fun t u j => by rw [fhU_o (by decide), fhU_o (by decide)]
      rw [(rw1 t u).2.1, if_neg (nI_ge hi (by omega))]
      refine wq_for (R := fun k x => ∃ u, x = (nI k, fhU (fhU σ 40 t) 42 u) ∧ ∀ v, v < k → u v = 0) 0 W.N (Nat.zero_le _) ?_ ?_ ⟨u, rfl, fun v hv => absurd hv (Nat.not_lt_zero _)⟩
      · rintro k x - hk ⟨u, rfl, hu⟩
        (try dsimp only)
        unfold f_X12_laysRound_41
        rw [e52, if_neg (nI_ge hk (by omega)), if_pos (ph_in1 (by omega) (by omega)), ph_ix (by omega), fhU_I, nI_1, wq_some, fhK_l]
        refine ⟨_, rfl, fun v hv => ?_⟩
        (try dsimp only)
        by_cases q : v = k
        · rw [if_pos q]
        · rw [if_neg q]
          exact hu v (by omega)
      · rintro x ⟨u, rfl, hu⟩
        (try dsimp only)
        unfold f_X12_laysRound_41
        rw [e52, if_pos (nI_le (Nat.le_refl _) (by omega)), wq_map]
        have gi := hg i hi
        have m16 : ∀ k v, msk (gW2 W (σ.1 41)) (rl k W.al) i v < 16 := fun k v => msk_lt (fun r hr => hW.2.2.2.2.1 r i (hW.2.2.2.2.2.2.1 r (rl_mem.mp hr).2))
        refine wq_for (R := fun k x => ∃ u, x = (nI k, fhU (fhU σ 40 t) 42 u) ∧ ∀ v, v < W.N → u v = nI (msk (gW2 W (σ.1 41)) (rl k W.al) i v)) 0 W.N (Nat.zero_le _) ?_ ?_ ⟨u, rfl, fun v hv => hu v hv⟩
        · rintro k x - hk ⟨u, rfl, hu⟩
          (try dsimp only)
          unfold f_X12_laysRound_64 f_X12_laysRound_109
          rw [e52, if_neg (nI_ge hk (by omega)), if_pos (ph_in1 (by omega) (by omega)), ph_ix (by omega), al1 t u k hk]
          by_cases q : W.al k = true
          · obtain ⟨ge, gl⟩ := gN_e hW gi q
            have hmk := hW.2.2.2.2.1 k i hk
            rw [if_neg (by rw [al01]; exact not_not_intro q), e1024, ph_ix (k := 1024 * i + k) (by omega), e41, ge, if_pos (in2 (by omega) (by omega) (by decide) (by decide)), mk_mo hW (rw1 t u) hk hi, wq_bind, wq_some, if_pos (ph_in1 (by omega) (by omega)), ph_ix (k := gN (σ.1 41) i k) (by omega), fhU_e, hu _ gl, ph_shl1 (by omega), ph_or, fhU_I, nI_1, wq_some, fhK_l]
            refine ⟨_, rfl, fun v hv => ?_⟩
            (try dsimp only)
            rw [rl_s, if_pos q, msk_s]
            by_cases c : v = gN (σ.1 41) i k
            · rw [if_pos c, if_pos (show (gW2 W (σ.1 41)).vw k i = v from c.symm), c]
              rfl
            · rw [if_neg c, if_neg (show ¬ (gW2 W (σ.1 41)).vw k i = v from fun z => c z.symm)]
              exact hu v hv
          · rw [if_pos (by rw [al01]; exact q), nI_1, wq_some, fhK_l]
            refine ⟨u, rfl, fun v hv => ?_⟩
            rw [rl_s, if_neg q]
            exact hu v hv
        · rintro x ⟨u, rfl, hu⟩
          (try dsimp only)
          unfold f_X12_laysRound_64
          rw [e52, if_pos (nI_le (Nat.le_refl _) (by omega)), wq_map]
          refine wq_for (R := fun k x => ∃ t, x = (nI k, fhU (fhU σ 40 t) 42 u) ∧ (∀ j, ¬ (1024 * n ≤ j ∧ j < 1024 * n + 1024) → t j = σ.1 40 j) ∧ ∀ r, W.al r = true → t (1024 * n + r) = nI (if r < k then kbN W (rl W.N (tl W n r)) r (i + 1) else kbN W (rl W.N (tl W n r)) r i)) 0 W.N (Nat.zero_le _) ?_ ?_ ⟨t, rfl, t1, fun r hr => by rw [if_neg (Nat.not_lt_zero _)]; exact t2 r hr⟩
          · rintro k x - hk ⟨t, rfl, t1, t2⟩
            (try dsimp only)
            unfold f_X12_laysRound_117 f_X12_laysRound_175
            have stay : ∀ r, r < k + 1 → r ≠ k → r < k := fun r a b => by omega
            rw [e52, if_neg (nI_ge hk (by omega)), if_pos (ph_in1 (by omega) (by omega)), ph_ix (by omega), al1 t u k hk]
            by_cases q : W.al k = true
            · obtain ⟨ge, gl⟩ := gN_e hW gi q
              rw [if_neg (by rw [al01]; exact not_not_intro q), e1024, ph_ix (k := 1024 * i + k) (by omega), e41, ge, if_pos (in2 (by omega) (by omega) (by decide) (by decide)), ph_ix (k := gN (σ.1 41) i k) (by omega), fhU_e, hu _ gl, m_isOne (Nat.lt_trans (m16 _ _) (by decide)), mskG_e hW gi q]
              by_cases c : one (msk W (rl W.N (tl W n k)) i (W.vw k i)) = true
              · rw [if_pos c, e1024, if_pos (in2 (by omega) (by omega) (by decide) (by decide)), ph_ix (k := 1024 * n + k) (by omega), fhU_o (show 40 ≠ 42 by decide), fhU_e, t2 k q, if_neg (Nat.lt_irrefl _), ph_shl1 (by omega), ph_or, fhU_IO (by decide), fhU_I, nI_1, wq_some, fhK_l]
                refine ⟨_, rfl, fun j hj => ?_, fun r hr => ?_⟩
                · (try dsimp only)
                  rw [if_neg (by omega)]
                  exact t1 j hj
                · (try dsimp only)
                  by_cases e : r = k
                  · rw [if_pos (by rw [e]), if_pos (by omega), e, kbN_s, if_pos c]
                  · rw [if_neg (by omega), t2 r hr]
                    by_cases d : r < k
                    · rw [if_pos d, if_pos (by omega)]
                    · rw [if_neg d, if_neg (by omega)]
              · rw [if_neg c, nI_1, wq_some, fhK_l]
                refine ⟨t, rfl, t1, fun r hr => ?_⟩
                rw [t2 r hr]
                by_cases e : r = k
                · rw [if_pos (show r < k + 1 by omega), if_neg (by omega), e, kbN_s, if_neg c]
                · by_cases d : r < k
                  · rw [if_pos d, if_pos (by omega)]
                  · rw [if_neg d, if_neg (by omega)]
            · rw [if_pos (by rw [al01]; exact q), nI_1, wq_some, fhK_l]
              refine ⟨t, rfl, t1, fun r hr => ?_⟩
              have e : r ≠ k := fun z => q (by rw [← z]; exact hr)
              rw [t2 r hr]
              by_cases d : r < k
              · rw [if_pos d, if_pos (by omega)]
              · rw [if_neg d, if_neg (by omega)]
          · rintro x ⟨t, rfl, t1, t2⟩
            (try dsimp only)
            unfold f_X12_laysRound_117
            rw [e52, if_pos (nI_le (Nat.le_refl _) (by omega)), nI_1, wq_some, fhK_r, fhK_r, fhK_r, fhK_l]
            refine ⟨t, u, rfl, t1, fun r hr => ?_⟩
            rw [t2 r hr, if_pos (hW.2.2.2.2.2.2.1 r hr)]
    · rintro x ⟨t, u, rfl, t1, t2⟩
      (try dsimp only)
      unfold f_X12_laysRound_31 f_X12_guestMany
      rw [fhU_o (show 29 ≠ 42 by decide), fhU_o (show 29 ≠ 40 by decide), hrw.2.1, if_pos (nI_le (Nat.le_refl _) (by omega)), wq_some, fhK_r]
      exact ⟨t, u, rfl, t1, t2⟩
end
