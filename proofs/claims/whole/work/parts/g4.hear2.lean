/-! ANEW in the reference: what was heard -/
section
variable {W : gW} {T : tT}
theorem m_hear96 {σ : fhM} (hT : tOK T) (hx : ∀ i, i < T.2 → σ.1 1 i = nI (T.1 i)) (h48 : T.2 ≤ 48) : wq (f_X12_hear_96 (nI T.2) (1 : Int32) σ) (fun r => r.1 = nI (T.2 / 3) ∧ ∃ t, r.2 = fhI (fhU σ 50 t) 0 68 (nI (T.2 / 3)) ∧ ∀ k, k < T.2 → t k = nI (T.1 k)) := by
  unfold f_X12_hear_96
  rw [if_neg (show ¬ (1 : Int32) = 0 by decide)]
  refine wq_for (R := fun k x => ∃ t, x = (nI k, fhU σ 50 t) ∧ ∀ j, j < k → t j = nI (T.1 j)) 0 T.2 (Nat.zero_le _) ?_ ?_ ⟨σ.1 50, by rw [fhU_id (fun _ => rfl)]; rfl, fun k hk => absurd hk (Nat.not_lt_zero _)⟩
  · rintro k x - hk ⟨t, rfl, ht⟩
    (try dsimp only)
    unfold f_X12_hear_108
    rw [if_neg (nI_ge hk (by omega)), if_pos (in2 (by omega) (by omega) (by decide) (by decide)), ph_ix (by omega), fhU_o (show 1 ≠ 50 by decide), hx k hk, fhU_I, nI_1, wq_some, fhK_l]
    refine ⟨_, rfl, fun j hj => ?_⟩
    (try dsimp only)
    by_cases q : j = k
    · rw [if_pos q, q]
    · rw [if_neg q]
      exact ht j (by omega)
  · rintro x ⟨t, rfl, ht⟩
    (try dsimp only)
    unfold f_X12_hear_108
    rw [if_pos (nI_le (Nat.le_refl _) (by omega)), show (3 : Int32) = nI 3 from rfl, nI_div (by omega) (by omega), wq_some, fhK_r]
    exact ⟨rfl, t, rfl, ht⟩
theorem m_hear (hW : wOK W) (hT : tOK T) {σ : fhM} (h1 : σ.1 0 1 = nI T.2) (hx : ∀ i, i < T.2 → σ.1 1 i = nI (T.1 i)) (h6 : σ.1 29 6 = nI W.g) :
    wq (f_X12_hear σ) (fun r => (hrdO W T ∧ r.1 = nI (T.2 / 3) ∧ ∃ t, r.2 = fhI (fhU (fhI σ 0 1 (0 : Int32)) 50 t) 0 68 (nI (T.2 / 3)) ∧ ∀ k, k < T.2 → t k = nI (T.1 k)) ∨ (¬ hrdO W T ∧ r = ((-1 : Int32), fhI (fhI σ 0 1 (0 : Int32)) 2 1 (σ.1 2 1 + 1)))) := by
  have hT1 := hT.1
  have hT2 := hT.2
  have hg5 := hW.1
  have hd : T.2 / 3 ≤ T.2 := Nat.div_le_self _ _
  have no96 : f_X12_hear_96 (nI T.2) (0 : Int32) (fhI σ 0 1 (0 : Int32)) = some ((-1 : Int32), fhI (fhI σ 0 1 (0 : Int32)) 2 1 (σ.1 2 1 + 1)) := by
    unfold f_X12_hear_96
    rw [if_pos rfl, show (1 : Int32) = nI 1 from rfl, m_refuses (by decide)]
    show some _ = _
    rw [fhI_o (show 2 ≠ 0 by decide)]
    rfl
  have bad : ∀ {v3 : Int32} {P : Int32 × fhM → Prop}, P ((-1 : Int32), fhI (fhI σ 0 1 (0 : Int32)) 2 1 (σ.1 2 1 + 1)) → wq (f_X12_hear_36 (nI T.2) (0 : Int32) v3 (fhI σ 0 1 (0 : Int32))) (fhK (fun _ => False) P) := by
    intro v3 P hP
    unfold f_X12_hear_36
    by_cases c : nI T.2 ≤ v3
    · rw [if_pos c, no96, wq_map, wq_some]
      exact hP
    · rw [if_neg c, if_pos rfl, no96, wq_map, wq_some]
      exact hP
  have bad0 : ¬ hrdO W T → wq (f_X12_hear_32 (nI T.2) (fhI σ 0 1 (0 : Int32))) (fun r => (hrdO W T ∧ r.1 = nI (T.2 / 3) ∧ ∃ t, r.2 = fhI (fhU (fhI σ 0 1 (0 : Int32)) 50 t) 0 68 (nI (T.2 / 3)) ∧ ∀ k, k < T.2 → t k = nI (T.1 k)) ∨ (¬ hrdO W T ∧ r = ((-1 : Int32), fhI (fhI σ 0 1 (0 : Int32)) 2 1 (σ.1 2 1 + 1)))) := by
    intro hn
    unfold f_X12_hear_32 f_X12_hear_33
    refine wq_step (wq_mono (bad (P := fun r => r = ((-1 : Int32), fhI (fhI σ 0 1 (0 : Int32)) 2 1 (σ.1 2 1 + 1))) rfl) ?_)
    intro x hx2
    cases x with
    | inl y => exact hx2.elim
    | inr y => exact Or.inr ⟨hn, hx2⟩
  have hx1 : ∀ i, i < T.2 → (fhI σ 0 1 (0 : Int32)).1 1 i = nI (T.1 i) := fun i hi => by rw [fhI_o (by decide)]; exact hx i hi
  have h61 : (fhI σ 0 1 (0 : Int32)).1 29 6 = nI W.g := by rw [fhI_o (by decide)]; exact h6
  unfold f_X12_hear
  rw [h1, show (3 : Int32) = nI 3 from rfl]
  rw [show fhrem (nI T.2) (nI 3) = nI (T.2 % 3) from ph_rem (by omega) (by omega) (by omega), nI_div (by omega) (by omega)]
  by_cases c0 : T.2 = 0
  · rw [if_pos (by rw [nI_le0 (by omega)]; exact c0)]
    exact bad0 (fun z => by have := z.2.1; omega)
  · rw [if_neg (by rw [nI_le0 (by omega)]; exact c0)]
    by_cases c1 : T.2 % 3 = 0
    · rw [if_pos (by rw [c1]; rfl)]
      by_cases c3 : T.2 / 3 ≤ 16
      · rw [if_neg (show ¬ (16 : Int32) < nI (T.2 / 3) by rw [show (16 : Int32) = nI 16 from rfl, nI_ltP (by omega) (by omega)]; omega)]
        unfold f_X12_hear_33
        refine wq_for (R := fun j x => (x = ((1 : Int32), nI (3 * j)) ∧ ∀ k, k < j → hrj W T k) ∨ (x = ((0 : Int32), nI (3 * j)) ∧ ¬ hrdO W T)) 0 (T.2 / 3) (Nat.zero_le _) ?_ ?_ (Or.inl ⟨rfl, fun k hk => absurd hk (Nat.not_lt_zero _)⟩)
        · rintro j x - hj (⟨rfl, hk⟩ | ⟨rfl, hn⟩)
          · (try dsimp only)
            unfold f_X12_hear_36 f_X12_hear_88 f_X12_hear_89
            have g1 := hT2 (3 * j)
            have g2 := hT2 (3 * j + 1)
            have g3 := hT2 (3 * j + 2)
            have e3 : nI (3 * j) + (3 : Int32) = nI (3 * (j + 1)) := by
              rw [show (3 : Int32) = nI 3 from rfl, nI_add]
              congr 1
            rw [if_neg (nI_ge (by omega) (by omega)), if_neg (show ¬ (1 : Int32) = 0 by decide), if_pos (ph_in1 (by omega) (by omega)), ph_ix (by omega), hx1 _ (by omega), e3]
            by_cases d1 : T.1 (3 * j) ≤ 15
            · rw [if_neg (show ¬ (15 : Int32) < nI (T.1 (3 * j)) by rw [show (15 : Int32) = nI 15 from rfl, nI_ltP (by omega) (by omega)]; omega), nI_1, if_pos (ph_in1 (by omega) (by omega)), ph_ix (by omega), hx1 _ (by omega)]
              by_cases d2 : T.1 (3 * j + 1) < W.g
              · rw [if_pos (by rw [m_isG _ (by omega) h61, inB_n (by omega)]; exact d2), show (2 : Int32) = nI 2 from rfl, nI_add, if_pos (ph_in1 (by omega) (by omega)), ph_ix (by omega), hx1 _ (by omega)]
                by_cases d3 : T.1 (3 * j + 2) ≤ 1
                · rw [if_neg (show ¬ (1 : Int32) < nI (T.1 (3 * j + 2)) by rw [show (1 : Int32) = nI 1 from rfl, nI_ltP (by omega) (by omega)]; omega), wq_some, fhK_l]
                  refine Or.inl ⟨rfl, fun k hk2 => ?_⟩
                  rcases Nat.lt_or_ge k j with e | e
                  · exact hk k e
                  · have : k = j := by omega
                    rw [this]
                    exact ⟨d1, d2, d3⟩
                · rw [if_pos (show (1 : Int32) < nI (T.1 (3 * j + 2)) by rw [show (1 : Int32) = nI 1 from rfl, nI_ltP (by omega) (by omega)]; omega), wq_some, fhK_l]
                  exact Or.inr ⟨rfl, fun z => d3 (z.2.2.2 j hj).2.2⟩
              · rw [if_neg (by rw [m_isG _ (by omega) h61, inB_n (by omega)]; exact d2), wq_some, fhK_l]
                exact Or.inr ⟨rfl, fun z => d2 (z.2.2.2 j hj).2.1⟩
            · rw [if_pos (show (15 : Int32) < nI (T.1 (3 * j)) by rw [show (15 : Int32) = nI 15 from rfl, nI_ltP (by omega) (by omega)]; omega), wq_some, fhK_l]
              exact Or.inr ⟨rfl, fun z => d1 (z.2.2.2 j hj).1⟩
          · (try dsimp only)
            refine wq_mono (bad (P := fun r => r = ((-1 : Int32), fhI (fhI σ 0 1 (0 : Int32)) 2 1 (σ.1 2 1 + 1))) rfl) ?_
            intro x hx2
            cases x with
            | inl y => exact hx2.elim
            | inr y => exact Or.inr ⟨hn, hx2⟩
        · rintro x (⟨rfl, hk⟩ | ⟨rfl, hn⟩)
          · (try dsimp only)
            unfold f_X12_hear_36
            rw [if_pos (nI_le (by omega) (by omega)), wq_map]
            refine wq_mono (m_hear96 hT hx1 (by omega)) ?_
            rintro r ⟨a, b⟩
            rw [fhK_r]
            exact Or.inl ⟨⟨c1, by omega, c3, hk⟩, a, b⟩
          · (try dsimp only)
            refine wq_mono (bad (P := fun r => r = ((-1 : Int32), fhI (fhI σ 0 1 (0 : Int32)) 2 1 (σ.1 2 1 + 1))) rfl) ?_
            intro x hx2
            cases x with
            | inl y => exact hx2.elim
            | inr y => exact Or.inr ⟨hn, hx2⟩
      · rw [if_pos (show (16 : Int32) < nI (T.2 / 3) by rw [show (16 : Int32) = nI 16 from rfl, nI_ltP (by omega) (by omega)]; omega)]
        exact bad0 (fun z => c3 z.2.2.1)
    · rw [if_neg (by rw [nI_eq0 (by omega)]; exact c1)]
      exact bad0 (fun z => c1 z.1)
end
