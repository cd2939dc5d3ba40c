/-! THE REFERENCE: on -/
section
variable {W : gW} {T : tT} {G : gG} {S : List gG}
theorem m_on (hW : wOK W) (hNm : W.N = W.m ^ W.g) (hm : 2 ≤ W.m) (hT : tOK T) {σ : fhM} (hg : mGm W G S σ) (hi : lin W G.L) (h47 : ¬ σ.1 0 47 = 0) (h1 : σ.1 0 1 = nI T.2) (hx : ∀ i, i < T.2 → σ.1 1 i = nI (T.1 i)) : wq (f_X12_on σ) (fun r => (onO W T ∧ r.1 = true ∧ mGm W (onG W T) [] r.2 ∧ fr aDm (fhI σ 0 1 (0 : Int32)) r.2) ∨ (¬ onO W T ∧ r = (false, fhI (fhI σ 0 1 (0 : Int32)) 2 5 (σ.1 2 5 + 1)))) := by
  have hg5 := hW.1
  have hN10 := hW.2.1
  have hT1 := hT.1
  have hT2 := hT.2
  have m4 := hW.2.2.2.1
  obtain ⟨hb1, hb2, hb3⟩ := nbt_le hW
  have hpz : psz W = 2 + W.g + nbt W + 1 := rfl
  obtain ⟨⟨hrw, c8, c37, c38, c32, c53⟩, htm, ⟨x, hst⟩, h62⟩ := hg
  have hx1 : ∀ i, i < T.2 → (fhI σ 0 1 (0 : Int32)).1 1 i = nI (T.1 i) := fun i hi => by rw [fhI_o (by decide)]; exact hx i hi
  have hrw1 : rwM' W (fhI σ 0 1 (0 : Int32)) := rwM'_I hrw (by decide) (by decide) (by decide)
  have hal1 : alM W (fhI σ 0 1 (0 : Int32)) := fun r hr => by rw [fhI_o (by decide)]; exact c37 r hr
  unfold f_X12_on fhlet
  (try dsimp only)
  rw [h1, wq_bind]
  refine wq_mono (m_isImg hW hNm hm hT hrw1 hal1 (by rw [fhI_s (by decide)]; exact h47) hx1) ?_
  rintro v (⟨ho, rfl⟩ | ⟨ho, rfl⟩)
  · have hT3 := ho.1.1
    have hmk : ∀ i, i < W.g → T.1 (2 + i) < W.m := ho.1.2.2.2
    unfold f_X12_guestMany
    rw [if_pos rfl, m_twoAt hT hx1 (by omega), wq_bind, wq_some, hrw1.2.1, show (2 : Int32) = nI 2 from rfl, nI_add, nI_dec (by omega)]
    have e44 : fhI (fhI (fhI σ 0 1 (0 : Int32)) 44 0 (nI (256 * T.1 0 + T.1 1))) 44 1 (0 : Int32) = fhU (fhI σ 0 1 (0 : Int32)) 44 (fun j => if j = 1 then nI 0 else if j = 0 then nI (256 * T.1 0 + T.1 1) else σ.1 44 j) := by
      rw [fhI_U (t := 44) (k := 0), fhU_I]
      rfl
    rw [e44]
    refine wq_for (R := fun j y => ∃ acc f, y = (nI (1 + (W.g - j)), fhU (fhI σ 0 1 (0 : Int32)) 44 f) ∧ rowT W T W.g = rowT W T (W.g - j) + W.m ^ (W.g - j) * acc ∧ f 0 = nI (256 * T.1 0 + T.1 1) ∧ f 1 = nI acc ∧ ∀ k, 2 ≤ k → f k = σ.1 44 k) 0 W.g (Nat.zero_le _) ?_ ?_ ⟨0, _, by rw [show 2 + W.g - 1 = 1 + (W.g - 0) from by omega], by rw [Nat.sub_zero, Nat.mul_zero, Nat.add_zero], rfl, rfl, fun k hk => ?_⟩
    · rintro j y - hj ⟨acc, f, rfl, q1, f0, f1, f2⟩
      (try dsimp only)
      unfold f_X12_on_53 f_X12_markMany
      rw [if_neg (show ¬ nI (1 + (W.g - j)) ≤ (1 : Int32) by rw [show (1 : Int32) = nI 1 from rfl, nI_leP (by omega) (by omega)]; omega), if_pos (ph_in1 (by omega) (by omega)), ph_ix (by omega), fhU_o (show 1 ≠ 44 by decide), hx1 _ (by omega), fhU_o (show 29 ≠ 44 by decide), hrw1.1, fhU_e, f1, pk_mul, nI_add, fhU_I, nI_decm (by omega), wq_some, fhK_l]
      refine ⟨W.m * acc + T.1 (1 + (W.g - j)), _, by rw [show 1 + (W.g - j) - 1 = 1 + (W.g - (j + 1)) from by omega], ?_, ?_, ?_, fun k hk => ?_⟩
      · rw [q1, show W.g - j = W.g - (j + 1) + 1 from by omega]
        show rowT W T (W.g - (j + 1)) + T.1 (2 + (W.g - (j + 1))) * W.m ^ (W.g - (j + 1)) + _ = _
        rw [Nat.pow_succ, show 1 + (W.g - (j + 1) + 1) = 2 + (W.g - (j + 1)) from by omega]
        generalize W.m ^ (W.g - (j + 1)) = P
        generalize T.1 (2 + (W.g - (j + 1))) = c
        rw [Nat.mul_add, Nat.mul_assoc, Nat.mul_comm P c]
        omega
      · (try dsimp only)
        rw [if_neg (by decide)]
        exact f0
      · (try dsimp only)
        rw [if_pos rfl]
      · (try dsimp only)
        rw [if_neg (by omega)]
        exact f2 k hk
    · rintro y ⟨acc, f, rfl, q1, f0, f1, f2⟩
      (try dsimp only)
      unfold f_X12_on_53
      rw [Nat.sub_self] at q1 ⊢
      have hacc : acc = rowT W T W.g := by
        rw [q1]
        show acc = 0 + 1 * acc
        omega
      rw [if_pos (show nI (1 + 0) ≤ (1 : Int32) by decide), wq_map]
      refine wq_for (R := fun k y => ∃ f, y = (nI k, fhU (fhI σ 0 1 (0 : Int32)) 44 f) ∧ f 0 = nI (256 * T.1 0 + T.1 1) ∧ f 1 = nI (rowT W T W.g) ∧ (∀ r, r < k → f (2 + r) = bI (bitT W T r)) ∧ ∀ r, k ≤ r → f (2 + r) = σ.1 44 (2 + r)) 0 W.N (Nat.zero_le _) ?_ ?_ ⟨f, rfl, f0, by rw [f1, hacc], fun r hr => absurd hr (Nat.not_lt_zero _), fun r _ => f2 (2 + r) (by omega)⟩
      · rintro k y - hk ⟨f, rfl, g0, g1, g2, g3⟩
        (try dsimp only)
        unfold f_X12_on_90
        have ht := hT2 (2 + W.g + k / 8)
        rw [fhU_o (show 0 ≠ 44 by decide), hrw1.2.2.1, if_neg (nI_ge hk (by omega)), show (8 : Int32) = nI 8 from rfl, nI_div (by omega) (by omega), nI_add, show (2 : Int32) = nI 2 from rfl, nI_add, show fhrem (nI k) (nI 8) = nI (k % 8) from ph_rem (by omega) (by omega) (by omega), if_pos (in2 (by omega) (by omega) (by decide) (by decide)), ph_ix (by omega), ph_ix (by omega), fhU_o (show 1 ≠ 44 by decide), hx1 _ (by omega), m_bitA ht (by omega), fhU_I, nI_1, wq_some, fhK_l]
        refine ⟨_, rfl, ?_, ?_, fun r hr => ?_, fun r hr => ?_⟩
        · (try dsimp only)
          rw [if_neg (by omega)]
          exact g0
        · (try dsimp only)
          rw [if_neg (by omega)]
          exact g1
        · (try dsimp only)
          by_cases c : r = k
          · rw [if_pos (by omega), c]
            rfl
          · rw [if_neg (by omega)]
            exact g2 r (by omega)
        · (try dsimp only)
          rw [if_neg (by omega)]
          exact g3 r (by omega)
      · rintro y ⟨f, rfl, g0, g1, g2, g3⟩
        (try dsimp only)
        unfold f_X12_on_90
        rw [fhU_o (show 0 ≠ 44 by decide), hrw1.2.2.1, if_pos (nI_le (Nat.le_refl _) (by omega)), wq_some, fhK_r, fhK_r]
        have hfr : fr aDm (fhI σ 0 1 (0 : Int32)) (fhI (fhI (fhU (fhI σ 0 1 (0 : Int32)) 44 f) 44 1026 (0 : Int32)) 0 71 (0 : Int32)) := fr_I (fr_I (fr_U fr_rf (fun j => by unfold aDm; omega)) (by unfold aDm; omega)) (by unfold aDm; omega)
        have hm0 : mtb W (fhI σ 0 1 (0 : Int32)) := ⟨hrw1, by rw [fhI_o (by decide)]; exact c8, hal1, fun r a => by rw [fhI_o (by decide)]; exact c38 r a, fun r a => by rw [fhI_o (by decide)]; exact c32 r a, by rw [fhI_s (by decide)]; exact c53⟩
        have e44 : ∀ j, j ≠ 1026 → (fhI (fhI (fhU (fhI σ 0 1 (0 : Int32)) 44 f) 44 1026 (0 : Int32)) 0 71 (0 : Int32)).1 44 j = f j := fun j hj => by rw [fhI_o (by decide), fhI_s hj, fhU_e]
        refine Or.inl ⟨ho, rfl, ⟨mtb_a hm0 hfr, ⟨?_, ?_, fun r hr => ?_, ?_, fun k e hk => by rw [show lst40 (onG W T).H = [] from rfl, List.getElem?_nil] at hk; cases hk⟩, ⟨x, ?_, hst.2.1, ?_, Nat.zero_le _, fun k G hk => by rw [List.getElem?_nil] at hk; cases hk⟩, ?_⟩, hfr⟩
        · rw [e44 0 (by decide)]
          exact g0
        · rw [e44 1 (by decide)]
          exact g1
        · rw [e44 _ (by omega)]
          rcases Nat.lt_or_ge r W.N with c | c
          · rw [g2 r c]
            show bI (bitT W T r) = nI (if onL W T r = true then 1 else 0)
            unfold onL
            rw [decide_eq_true c, Bool.true_and]
            rfl
          · rw [g3 r c, htm.2.2.1 r hr, lin_f hi c]
            show _ = nI (if onL W T r = true then 1 else 0)
            unfold onL
            rw [decide_eq_false (by omega), Bool.false_and]
        · rw [fhI_o (by decide), fhI_e]
          rfl
        · rw [fhI_s (by decide), fhI_o (by decide), fhU_o (by decide), fhI_s (by decide)]
          exact hst.1
        · rw [fhI_e]
          rfl
        · rw [fhI_s (by decide), fhI_o (by decide), fhU_o (by decide), fhI_s (by decide)]
          exact h62
    · (try dsimp only)
      rw [if_neg (by omega), if_neg (by omega)]
  · rw [if_neg (show ¬ false = true by decide), show (5 : Int32) = nI 5 from rfl, m_refused (by decide), wq_bind, wq_some, wq_some, fhI_o (show 2 ≠ 0 by decide)]
    exact Or.inr ⟨ho, rfl⟩
end
