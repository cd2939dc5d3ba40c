/-! ANEW in the reference: laid as a whole; who knew at a round -/
def knT (W : gW) (σ : fhM) : Prop := ∀ n r, n ≤ 20 → W.al r = true → σ.1 40 (1024 * n + r) = nI (kH W n r)
def rnD (t _j : Nat) : Prop := t = 40 ∨ t = 41 ∨ t = 42 ∨ t = 43
section
variable {W : gW}
theorem alM_e {σ s : fhM} {D : Nat → Nat → Prop} (h : alM W σ) (hf : fr D σ s) (hd : ∀ j, ¬ D 37 j) : alM W s := fun r hr => by rw [hf.2 37 r (hd r)]; exact h r hr
theorem rwM'_e {σ s : fhM} {D : Nat → Nat → Prop} (h : rwM' W σ) (hf : fr D σ s) (h1 : ∀ j, ¬ D 29 j) (h2 : ¬ D 0 52) (h3 : ∀ j, ¬ D 39 j) : rwM' W s := ⟨by rw [hf.2 _ _ (h1 _)]; exact h.1, by rw [hf.2 _ _ (h1 _)]; exact h.2.1, by rw [hf.2 _ _ h2]; exact h.2.2.1, fun r i a b => by rw [hf.2 _ _ (h3 _)]; exact h.2.2.2 r i a b⟩
theorem m_laysAnew (hW : wOK W) {σ : fhM} (hrw : rwM' W σ) (hal : alM W σ) : wq (f_X12_laysAnew σ) (fun s => knT W s ∧ fr rnD σ s) := by
  have hN10 := hW.2.1
  unfold f_X12_laysAnew
  rw [wq_bind]
  refine wq_mono (m_laysGroups hW hrw hal) ?_
  rintro s ⟨q3, q1, rfl, hq⟩
  have hf0 : fr rnD σ (fhU (fhU σ 43 q3) 41 q1) := fr_U (fr_U fr_rf (fun j => by unfold rnD; omega)) (fun j => by unfold rnD; omega)
  refine wq_for (R := fun n x => ∃ s, x = (nI n, s) ∧ fr rnD σ s ∧ (∀ m r, m < n → W.al r = true → s.1 40 (1024 * m + r) = nI (kH W m r)) ∧ (n ≤ 20 → ∀ i, i < W.g → gpI W n i (s.1 41))) 0 21 (Nat.zero_le _) ?_ ?_ ⟨_, rfl, hf0, fun m r hm => absurd hm (Nat.not_lt_zero _), fun _ i hi => gpI_cg hW (hq i hi) (fun r _ => fhU_e)⟩
  · rintro n x - hn ⟨s, rfl, hf, hk, hg⟩
    (try dsimp only)
    unfold f_X12_laysAnew_6 f_X12_laysAnew_28
    have rw1 : rwM' W s := rwM'_e hrw hf (fun j => by unfold rnD; omega) (by unfold rnD; omega) (fun j => by unfold rnD; omega)
    have al1 : alM W s := alM_e hal hf (fun j => by unfold rnD; omega)
    rw [show (20 : Int32) = nI 20 from rfl, if_neg (by rw [nI_ltP (a := 20) (b := n) (by omega) (by omega)]; omega), wq_bind]
    refine wq_mono (m_laysRound hW rw1 al1 hn (hg (by omega))) ?_
    rintro s1 ⟨t, u, rfl, t1, t2⟩
    have hf1 : fr rnD σ (fhU (fhU s 40 t) 42 u) := fr_U (fr_U hf (fun j => by unfold rnD; omega)) (fun j => by unfold rnD; omega)
    have hk1 : ∀ m r, m < n + 1 → W.al r = true → (fhU (fhU s 40 t) 42 u).1 40 (1024 * m + r) = nI (kH W m r) := fun m r hm hr => by
      have hr2 := hW.2.2.2.2.2.2.1 r hr
      rw [fhU_o (by decide), fhU_e]
      rcases Nat.lt_or_ge m n with c | c
      · rw [t1 _ (by omega)]
        exact hk m r c hr
      · have : m = n := by omega
        rw [this]
        exact t2 r hr
    by_cases c : 20 ≤ n
    · rw [if_pos (nI_le c (by omega)), nI_1, wq_some, fhK_l]
      exact ⟨_, rfl, hf1, hk1, fun z => absurd z (by omega)⟩
    · rw [if_neg (nI_ge (by omega) (by omega)), wq_bind]
      have rw2 : rwM' W (fhU (fhU s 40 t) 42 u) := rwM'_e hrw hf1 (fun j => by unfold rnD; omega) (by unfold rnD; omega) (fun j => by unfold rnD; omega)
      have al2 : alM W (fhU (fhU s 40 t) 42 u) := alM_e hal hf1 (fun j => by unfold rnD; omega)
      refine wq_mono (m_splits hW rw2 al2 hn (fun i hi => gpI_cg hW (hg (by omega) i hi) (fun r _ => by rw [fhU_o (by decide), fhU_o (by decide)])) (fun r hr => hk1 n r (Nat.lt_succ_self n) hr)) ?_
      rintro s2 ⟨q3, q1, rfl, hq⟩
      rw [nI_1, wq_some, fhK_l]
      refine ⟨_, rfl, fr_U (fr_U hf1 (fun j => by unfold rnD; omega)) (fun j => by unfold rnD; omega), fun m r hm hr => ?_, fun _ i hi => gpI_cg hW (hq i hi) (fun r _ => fhU_e)⟩
      rw [fhU_o (show 40 ≠ 41 by decide), fhU_o (show 40 ≠ 43 by decide)]
      exact hk1 m r hm hr
  · rintro x ⟨s, rfl, hf, hk, hg⟩
    (try dsimp only)
    unfold f_X12_laysAnew_6
    rw [if_pos (by decide), wq_some, fhK_r]
    exact ⟨fun n r hn hr => hk n r (by omega) hr, hf⟩
theorem m_knewAt (hW : wOK W) {σ : fhM} (h : knT W σ) {n r i : Nat} (hn : n ≤ 20) (hr : W.al r = true) (hi : i < W.g) : f_X12_knewAt (nI n) (nI r) (nI i) σ = some (decide (fk W r i ≤ n)) := by
  have hg5 := hW.1
  have hN10 := hW.2.1
  have hr2 := hW.2.2.2.2.2.2.1 r hr
  have hkH : kH W n r < 32 := kb_lt hW _ r
  unfold f_X12_knewAt
  rw [e1024, if_pos (ph_in1 (by omega) (by omega)), ph_ix (by omega), h n r hn hr]
  by_cases c : fk W r i ≤ n
  · rw [if_pos (by rw [ph_bit1 (by omega) (by omega)]; exact (fk_iff hW hr hi hn).mp c), decide_eq_true c]
  · rw [if_neg (by rw [ph_bit1 (by omega) (by omega)]; exact fun z => c ((fk_iff hW hr hi hn).mpr z)), decide_eq_false c]
theorem c_first (hW : wOK W) {σ : fhM} (h : fkT W σ) {r i : Nat} (hr : W.al r = true) (hi : i < W.g) : f_X1_firstKnown (nI r) (nI i) σ = nI (fk W r i) := by
  have hg5 := hW.1
  have hN10 := hW.2.1
  have hr2 := hW.2.2.2.2.2.2.1 r hr
  unfold f_X1_firstKnown
  rw [e5, cg87 (by omega)]
  exact h r i hr hi
end
