/-! HOW DEEP ALL KNOW: the reference -/
section
variable {W : gW} {L : Nat → Bool} {w0 rd : Nat}
theorem m_goesDeeper (hW : wOK W) {σ : fhM} (hrw : rwM' W σ) (hL : lfM L σ) {D : Nat → Bool} (hD : ∀ r, r < W.N → σ.1 49 r = bI (D r)) (hDL : ∀ r, D r = true → L r = true) :
    wq (f_X12_goesDeeper σ) (fun s => ∃ t u v, s = fhU (fhU (fhU σ 46 u) 42 v) 49 t ∧ ∀ r, r < W.N → t r = bI (dpN W (rl W.N L) D W.g r)) := by
  have hN10 := hW.2.1
  have hg5 := hW.1
  unfold f_X12_goesDeeper
  refine wq_for (R := fun k x => ∃ u, x = (nI k, fhU σ 46 u) ∧ ∀ r, r < k → u r = bI (D r)) 0 W.N (Nat.zero_le _) ?_ ?_ ⟨σ.1 46, by rw [fhU_id (fun _ => rfl)]; rfl, fun r hr => absurd hr (Nat.not_lt_zero _)⟩
  · rintro k x - hk ⟨u, rfl, hu⟩
    (try dsimp only)
    unfold f_X12_goesDeeper_2 f_X12_goesDeeper_29
    rw [fhU_o (by decide), hrw.2.2.1, if_neg (nI_ge hk (by omega)), if_pos (ph_in1 (by omega) (by omega)), ph_ix (by omega), fhU_o (by decide), hD k hk, fhU_I, nI_1, if_pos (ph_in1 (by omega) (by omega)), wq_some, fhK_l]
    refine ⟨_, rfl, fun r hr => ?_⟩
    (try dsimp only)
    simp only [bI_0]
    by_cases q : r = k
    · rw [if_pos q, q]
      cases D k
      · rw [if_pos rfl]; rfl
      · rw [if_neg (by decide)]; rfl
    · rw [if_neg q]; exact hu r (by omega)
  · rintro x ⟨u, rfl, hu⟩
    (try dsimp only)
    unfold f_X12_goesDeeper_2
    rw [fhU_o (by decide), hrw.2.2.1, if_pos (nI_le (Nat.le_refl _) (by omega)), wq_map]
    refine wq_for (R := fun i x => ∃ v t, x = (nI i, fhU (fhU (fhU σ 46 u) 42 v) 49 t) ∧ ∀ r, r < W.N → t r = bI (dpN W (rl W.N L) D i r)) 0 W.g (Nat.zero_le _) ?_ ?_ ⟨(fhU σ 46 u).1 42, (fhU σ 46 u).1 49, ?_, fun r hr => by rw [dpN_0, fhU_o (by decide)]; exact hD r hr⟩
    · rintro i x - hi ⟨v, t, rfl, ht⟩
      (try dsimp only)
      unfold f_X12_goesDeeper_38 f_X12_guestMany
      have hrw1 : ∀ v t, rwM' W (fhU (fhU (fhU σ 46 u) 42 v) 49 t) := fun v t => rwM'_U (rwM'_U (rwM'_U hrw (by decide) (by decide) (by decide)) (by decide) (by decide) (by decide)) (by decide) (by decide) (by decide)
      have hL1 : ∀ v t, lfM L (fhU (fhU (fhU σ 46 u) 42 v) 49 t) := fun v t => lfM_U (lfM_U (lfM_U hL (by decide)) (by decide)) (by decide)
      rw [(hrw1 v t).2.1, if_neg (nI_ge hi (by omega))]
      refine wq_for (R := fun k x => ∃ v, x = (nI k, fhU (fhU (fhU σ 46 u) 42 v) 49 t) ∧ ∀ j, j < k → v j = 0) 0 W.N (Nat.zero_le _) ?_ ?_ ⟨v, rfl, fun j hj => absurd hj (Nat.not_lt_zero _)⟩
      · rintro k x - hk ⟨v, rfl, hv⟩
        (try dsimp only)
        unfold f_X12_goesDeeper_48
        rw [(hrw1 v t).2.2.1, if_neg (nI_ge hk (by omega)), if_pos (ph_in1 (by omega) (by omega)), ph_ix (by omega), fhU_IO (by decide), fhU_I, nI_1, wq_some, fhK_l]
        refine ⟨_, rfl, fun j hj => ?_⟩
        (try dsimp only)
        by_cases q : j = k
        · rw [if_pos q]
        · rw [if_neg q]; exact hv j (by omega)
      · rintro x ⟨v, rfl, hv⟩
        (try dsimp only)
        unfold f_X12_goesDeeper_48
        rw [(hrw1 v t).2.2.1, if_pos (nI_le (Nat.le_refl _) (by omega)), wq_map]
        refine wq_for (R := fun k x => ∃ v, x = (nI k, fhU (fhU (fhU σ 46 u) 42 v) 49 t) ∧ ∀ j, j < W.N → v j = bI (bd' W (rl k L) D i j)) 0 W.N (Nat.zero_le _) ?_ ?_ ⟨v, rfl, fun j hj => by rw [hv j hj]; rfl⟩
        · rintro k x - hk ⟨v, rfl, hv⟩
          (try dsimp only)
          unfold f_X12_goesDeeper_71 f_X12_goesDeeper_114
          have hvw := hW.2.2.2.2.2.1 k i hk
          rw [(hrw1 v t).2.2.1, if_neg (nI_ge hk (by omega)), m_isLeft (hL1 v t) (by omega), wq_bind, wq_some, nI_1]
          by_cases q : L k = true
          · rw [if_pos q, if_pos (ph_in1 (by omega) (by omega)), ph_ix (k := k) (by omega), fhU_o (show 46 ≠ 49 by decide), fhU_o (show 46 ≠ 42 by decide), fhU_e, hu k hk]
            simp only [bI_0]
            by_cases q2 : D k = false
            · rw [if_pos q2, show (1024 : Int32) = nI 1024 from rfl, pk_mul, nI_add, ph_ix (k := 1024 * i + k) (by omega), (hrw1 v t).2.2.2 k i hk hi, ph_in (by omega), ph_in (by omega), decide_eq_true (show 1024 * i + k < 5120 by omega), decide_eq_true (show W.vw k i < 1024 by omega), if_pos (show (true && (true && true)) = true from rfl), ph_ix (by omega), fhU_IO (by decide), fhU_I, wq_some, fhK_l]
              refine ⟨_, rfl, fun j hj => ?_⟩
              (try dsimp only)
              rw [rl_s, if_pos q, bd_s]
              by_cases q3 : j = W.vw k i
              · rw [if_pos q3, decide_eq_true q3.symm, q2, show (true && !false) = true from rfl, Bool.or_true]
                rfl
              · rw [if_neg q3, decide_eq_false (fun z => q3 z.symm), Bool.false_and, Bool.or_false]
                exact hv j hj
            · have qt : D k = true := by
                cases e : D k with
                | true => rfl
                | false => exact absurd e q2
              rw [if_neg q2, wq_some, fhK_l]
              refine ⟨v, rfl, fun j hj => ?_⟩
              rw [rl_s, if_pos q, bd_s, qt, show (!true) = false from rfl, Bool.and_false, Bool.or_false]
              exact hv j hj
          · rw [if_neg q, wq_some, fhK_l]
            refine ⟨v, rfl, fun j hj => ?_⟩
            rw [rl_s, if_neg q]
            exact hv j hj
        · rintro x ⟨v, rfl, hv⟩
          (try dsimp only)
          unfold f_X12_goesDeeper_71
          rw [(hrw1 v t).2.2.1, if_pos (nI_le (Nat.le_refl _) (by omega)), wq_map]
          refine wq_for (R := fun k x => ∃ t, x = (nI k, fhU (fhU (fhU σ 46 u) 42 v) 49 t) ∧ ∀ r, r < W.N → t r = bI (if r < k then dpN W (rl W.N L) D (i + 1) r else dpN W (rl W.N L) D i r)) 0 W.N (Nat.zero_le _) ?_ ?_ ⟨t, rfl, fun r hr => by rw [if_neg (Nat.not_lt_zero r)]; exact ht r hr⟩
          · rintro k x - hk ⟨t, rfl, ht⟩
            (try dsimp only)
            unfold f_X12_goesDeeper_122 f_X12_goesDeeper_158
            have hvw := hW.2.2.2.2.2.1 k i hk
            rw [(hrw1 v t).2.2.1, if_neg (nI_ge hk (by omega)), nI_1, show (1024 : Int32) = nI 1024 from rfl, pk_mul, nI_add, ph_ix (k := 1024 * i + k) (by omega), (hrw1 v t).2.2.2 k i hk hi, ph_in (by omega), ph_in (by omega), decide_eq_true (show 1024 * i + k < 5120 by omega), decide_eq_true (show W.vw k i < 1024 by omega), if_pos (show (true && (true && true)) = true from rfl), ph_ix (by omega), fhU_o (show 42 ≠ 49 by decide), fhU_e, hv _ hvw]
            simp only [bI_1]
            by_cases q : bd' W (rl W.N L) D i (W.vw k i) = true
            · rw [if_pos q, if_pos (ph_in1 (by omega) (by omega)), ph_ix (by omega), fhU_I, show (0 : Int32) &&& 1 = 0 by decide, wq_some, fhK_l]
              refine ⟨_, rfl, fun r hr => ?_⟩
              (try dsimp only)
              by_cases qr : r = k
              · rw [if_pos qr, if_pos (show r < k + 1 by omega), qr, dpN_s, q, show (!true) = false from rfl, Bool.and_false]
                rfl
              · rw [if_neg qr, ht r hr]
                by_cases q4 : r < k
                · rw [if_pos q4, if_pos (show r < k + 1 by omega)]
                · rw [if_neg q4, if_neg (show ¬ r < k + 1 by omega)]
            · have qf : bd' W (rl W.N L) D i (W.vw k i) = false := by
                cases e : bd' W (rl W.N L) D i (W.vw k i) with
                | true => exact absurd e q
                | false => rfl
              rw [if_neg q, wq_some, fhK_l]
              refine ⟨t, rfl, fun r hr => ?_⟩
              rw [ht r hr]
              by_cases qr : r = k
              · rw [if_neg (show ¬ r < k by omega), if_pos (show r < k + 1 by omega), qr, dpN_s, qf, show (!false) = true from rfl, Bool.and_true]
              · by_cases q4 : r < k
                · rw [if_pos q4, if_pos (show r < k + 1 by omega)]
                · rw [if_neg q4, if_neg (show ¬ r < k + 1 by omega)]
          · rintro x ⟨t, rfl, ht⟩
            (try dsimp only)
            unfold f_X12_goesDeeper_122
            rw [(hrw1 v t).2.2.1, if_pos (nI_le (Nat.le_refl _) (by omega)), nI_1, wq_some, fhK_r, fhK_r, fhK_r, fhK_l]
            exact ⟨v, t, rfl, fun r hr => by rw [ht r hr, if_pos hr]⟩
    · rintro x ⟨v, t, rfl, ht⟩
      (try dsimp only)
      unfold f_X12_goesDeeper_38 f_X12_guestMany
      rw [fhU_o (by decide), fhU_o (by decide), fhU_o (by decide), hrw.2.1, if_pos (nI_le (Nat.le_refl _) (by omega)), wq_some, fhK_r, fhK_r]
      exact ⟨t, u, v, rfl, ht⟩
    · rw [fhU_id (σ := fhU σ 46 u) (t := 42) (fun _ => rfl), fhU_id (fun _ => rfl)]
      rfl
theorem m_deep (hW : wOK W) {σ : fhM} (hrw : rwM' W σ) (hg : gmM W L w0 rd σ) (hi : lin W L) (hw0 : w0 ∈ rl W.N L) (h47 : ¬ σ.1 0 47 = 0) : wq (f_X12_deep σ) (fun r => lev9 (fun n => dp W L n w0) r.1 ∧ fr (fun t _ => t = 42 ∨ t = 46 ∨ t = 49) σ r.2) := by
  have hN10 := hW.2.1
  have hg5 := hW.1
  have hwN := rl_lt _ hw0
  have h2p : 2 ^ W.g ≤ 2 ^ 5 := Nat.pow_le_pow_right (by decide) hg5
  unfold f_X12_deep
  rw [if_neg h47, wq_bind]
  refine wq_mono (m_laysKnowing hW hrw hg.1) (fun s z => ?_)
  obtain ⟨t0, u0, rfl, ht0⟩ := z
  refine wq_for (R := fun k x => ∃ t, x = (nI k, fhU (fhU (fhU σ 46 t0) 42 u0) 49 t) ∧ ∀ r, r < k → t r = bI (dp W L 0 r)) 0 W.N (Nat.zero_le _) ?_ ?_ ⟨(fhU (fhU σ 46 t0) 42 u0).1 49, by rw [fhU_id (fun _ => rfl)]; rfl, fun r hr => absurd hr (Nat.not_lt_zero _)⟩
  · rintro k x - hk ⟨t, rfl, ht⟩
    (try dsimp only)
    unfold f_X12_deep_15 f_X12_deep_57 f_X12_deep_58 f_X12_guestMany
    have hL1 : lfM L (fhU (fhU (fhU σ 46 t0) 42 u0) 49 t) := lfM_U (lfM_U (lfM_U hg.1 (by decide)) (by decide)) (by decide)
    have hkb := kb_lt hW (rl W.N L) k
    have put : ∀ b : Bool, ∀ r, r < k + 1 → b = dp W L 0 k → (fun j => if j = k then bI b else t j) r = bI (dp W L 0 r) := by
      intro b r hr hb
      (try dsimp only)
      by_cases q : r = k
      · rw [if_pos q, q, hb]
      · rw [if_neg q]; exact ht r (by omega)
    rw [fhU_o (by decide), fhU_o (by decide), fhU_o (by decide), hrw.2.2.1, if_neg (nI_ge hk (by omega)), m_isLeft hL1 (by omega), wq_bind, wq_some, nI_1, fhU_o (show 29 ≠ 49 by decide), fhU_o (show 29 ≠ 42 by decide), fhU_o (show 29 ≠ 46 by decide), hrw.2.1, ph_shl1 (by omega), nI_dec (Nat.two_pow_pos _)]
    by_cases q : L k = true
    · rw [if_pos q, if_pos (ph_in1 (by omega) (by omega)), ph_ix (k := k) (by omega), fhU_o (show 46 ≠ 49 by decide), fhU_o (show 46 ≠ 42 by decide), fhU_e, ht0 k hk, if_pos q, fhU_I, fhU_I]
      by_cases q2 : kb W (rl W.N L) k = 2 ^ W.g - 1
      · rw [if_pos (by rw [q2]), if_pos (ph_in1 (by omega) (by omega)), show (1 : Int32) &&& 1 = bI true by decide, wq_some, fhK_l]
        refine ⟨_, rfl, fun r hr => put true r hr ?_⟩
        show true = (L k && decide (kb W (rl W.N L) k = 2 ^ W.g - 1))
        rw [q, decide_eq_true q2]
        rfl
      · rw [if_neg (fun z => q2 ((nI_eq (by omega) (by omega)).mp z)), if_pos (ph_in1 (by omega) (by omega)), show (0 : Int32) &&& 1 = bI false by decide, wq_some, fhK_l]
        refine ⟨_, rfl, fun r hr => put false r hr ?_⟩
        show false = (L k && decide (kb W (rl W.N L) k = 2 ^ W.g - 1))
        rw [decide_eq_false q2, Bool.and_false]
    · rw [if_neg q, if_pos (ph_in1 (by omega) (by omega)), ph_ix (by omega), fhU_I, show (0 : Int32) &&& 1 = bI false by decide, wq_some, fhK_l]
      refine ⟨_, rfl, fun r hr => put false r hr ?_⟩
      show false = (L k && decide (kb W (rl W.N L) k = 2 ^ W.g - 1))
      cases e : L k with
      | true => exact absurd e q
      | false => rfl
  · rintro x ⟨t, rfl, ht⟩
    (try dsimp only)
    unfold f_X12_deep_15
    rw [fhU_o (by decide), fhU_o (by decide), fhU_o (by decide), hrw.2.2.1, if_pos (nI_le (Nat.le_refl _) (by omega)), wq_map]
    have f0 : fr (fun t _ => t = 42 ∨ t = 46 ∨ t = 49) σ (fhU (fhU (fhU σ 46 t0) 42 u0) 49 t) := ⟨rfl, fun a j hn => by rw [fhU_o (by omega), fhU_o (by omega), fhU_o (by omega)]⟩
    refine wq_for (R := fun n x => ∃ s, x = (nI n, s) ∧ fr (fun t _ => t = 42 ∨ t = 46 ∨ t = 49) σ s ∧ (∀ r, r < W.N → s.1 49 r = bI (dp W L n r)) ∧ ∀ j, j < n → dp W L j w0 = true) 0 9 (Nat.zero_le _) ?_ ?_ ⟨_, rfl, f0, fun r hr => by rw [fhU_e]; exact ht r hr, fun j hj => absurd hj (Nat.not_lt_zero _)⟩
    · rintro n x - hn ⟨s, rfl, hf, hs, hj⟩
      (try dsimp only)
      unfold f_X12_deep_67
      rw [hf.2 44 1 (by omega), hg.2.1, if_pos (ph_in1 (by omega) (by omega)), ph_ix (by omega), hs w0 hwN]
      simp only [bI_0]
      by_cases q : dp W L n w0 = false
      · rw [if_pos q, wq_some, fhK_r, fhK_r]
        exact ⟨⟨n, by omega, hj, Or.inr q, rfl⟩, hf⟩
      · rw [if_neg q, if_neg (show ¬ (9 : Int32) ≤ nI n from nI_ge (b := 9) hn (by decide)), wq_bind]
        have hrw1 : rwM' W s := rwM'_f hrw (frl_r hf (fun _ _ h => h)) (fun j => by omega) (by omega) (fun j => by omega)
        refine wq_mono (m_goesDeeper hW hrw1 (L := L) (fun r hr => by rw [hf.2 44 _ (by omega)]; exact hg.1 r hr) hs (dp_L n)) (fun s2 z => ?_)
        obtain ⟨t2, u2, v2, rfl, z2⟩ := z
        rw [wq_some, fhK_l, nI_1]
        refine ⟨_, rfl, ⟨hf.1, fun a j hn => by rw [fhU_o (by omega), fhU_o (by omega), fhU_o (by omega)]; exact hf.2 a j hn⟩, fun r hr => by rw [fhU_e]; exact z2 r hr, fun j hj2 => ?_⟩
        by_cases qj : j = n
        · rw [qj]
          cases e : dp W L n w0 with
          | true => rfl
          | false => exact absurd e q
        · exact hj j (by omega)
    · rintro x ⟨s, rfl, hf, hs, hj⟩
      (try dsimp only)
      unfold f_X12_deep_67
      rw [hf.2 44 1 (by omega), hg.2.1, if_pos (ph_in1 (by omega) (by omega)), ph_ix (by omega), hs w0 hwN]
      simp only [bI_0]
      by_cases q : dp W L 9 w0 = false
      · rw [if_pos q, wq_some, fhK_r, fhK_r]
        exact ⟨⟨9, Nat.le_refl _, hj, Or.inl rfl, rfl⟩, hf⟩
      · rw [if_neg q, if_pos (show (9 : Int32) ≤ nI 9 by decide), wq_some, fhK_r, fhK_r]
        exact ⟨⟨9, Nat.le_refl _, hj, Or.inl rfl, rfl⟩, hf⟩
end
