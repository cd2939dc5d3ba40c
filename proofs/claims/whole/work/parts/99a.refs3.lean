/-! THE REFERENCE READS A BLIND ONE, A TEST, A SLIP -/
theorem smk_b : ∀ a, a < 5 → ∀ b, b < 5 → ∀ x, x < 32 → ((smk a x).testBit b = (decide (a ≠ b) && !x.testBit b)) ∧ smk a x < 32 := by decide +kernel
theorem smk_or : ∀ a, a < 5 → ∀ b, b < 5 → ∀ x, x < 32 → smk a (x ||| 2 ^ b) = smk a x &&& (31 ^^^ 2 ^ b) := by decide +kernel
theorem ph_andn : ∀ x, x < 32 → ∀ b, b < 5 → nI x &&& (nI (2 ^ b) ^^^ (-1 : Int32)) = nI (x &&& (31 ^^^ 2 ^ b)) := by decide +kernel
section
variable {T : tT}
/-- a name looked up, behind a fault -/
theorem ms_namedN {e : Nat × Nat} {σ : fhM} (h : tF e σ) {n : Nat} (h1 : σ.1 29 1 = nI n) (hn : n ≤ 5) : wq (f_X12_guestNamed σ) (fun r => r.2 = σ ∧ ∃ g, g < 5 ∧ r.1 = nI g) := by
  unfold f_X12_guestNamed
  rw [m_nameN (tF_n h), wq_bind, wq_some]
  refine wq_for (R := fun i x => x = nI i) 0 n (Nat.zero_le _) ?_ ?_ rfl
  · rintro i x - hi rfl
    unfold f_X12_guestNamed_7
    rw [h1, if_neg (nI_ge hi (by omega)), if_pos (ph_in1 (by omega) (by omega))]
    split
    · rw [wq_some, fhK_r]; exact ⟨rfl, i, by omega, rfl⟩
    · rw [wq_some, fhK_l, nI_1]
  · rintro x rfl
    unfold f_X12_guestNamed_7
    rw [h1, if_pos (nI_le (Nat.le_refl n) (by omega)), if_neg (tF_n h), wq_some, fhK_r]
    exact ⟨rfl, 0, by decide, rfl⟩
/-- a name looked up -/
theorem ms_named (hT : tOK T) {k : Nat} {p : fhPS} {σ : fhM} (h : mP T k σ) (hw : mW σ) (hr : mRp p σ) : wq (f_X12_guestNamed σ) (fun r => ((aF T k).1 = 0 → ∀ g, nix p.nl 0 (lt T k) = some g → r.1 = nI g ∧ mP T (k + 1) r.2 ∧ r.2.1 0 37 = nI (fm T k)) ∧ ((aF T k).1 = 0 → nix p.nl 0 (lt T k) = none → tF (3, fm T k) r.2) ∧ ((aF T k).1 ≠ 0 → tF (aF T k) r.2) ∧ (∃ g, g < 5 ∧ r.1 = nI g) ∧ fr mD σ r.2) := by
  have hlen := nl_len p
  have h5 := hr.2.2.1.2.1
  unfold f_X12_guestNamed
  rw [wq_bind]
  refine wq_mono (m_name hT h hw) (fun r y => ?_)
  obtain ⟨y1, y2, y3⟩ := y
  obtain ⟨v, s⟩ := r
  dsimp only at y1 y2 y3 ⊢
  have hrs : mRp p s := mRp_m hr y3
  have s291 : s.1 29 1 = nI p.nl.length := hrs.2.2.1.1
  by_cases q1 : (aF T k).1 = 0
  · obtain ⟨hp, hv, h37⟩ := y1 q1
    obtain ⟨b1, b2, b3⟩ := aF_name q1
    have hlt := e27_lt b1 b2
    rw [hv]
    refine wq_for (R := fun i x => x = nI i ∧ ∀ j, j < i → p.nl[j]? ≠ some (lt T k)) 0 p.nl.length (Nat.zero_le _) ?_ ?_ ⟨rfl, fun j hj => by omega⟩
    · rintro i x - hi ⟨rfl, hx⟩
      unfold f_X12_guestNamed_7
      have hgl : p.nl[i]? = some p.nl[i] := List.getElem?_eq_getElem hi
      obtain ⟨a1, a2, a3, a4⟩ := hrs.2.2.1.2.2 i _ hgl
      rw [s291, if_neg (nI_ge hi (by omega)), if_pos (ph_in1 (by omega) (by omega)), ph_ix (by omega), a4]
      by_cases z : p.nl[i] = lt T k
      · rw [if_pos (by rw [lN_eqI (e27_lt a1 a2) hlt, z]), wq_some, fhK_r]
        have hx2 : nix p.nl 0 (lt T k) = some i := by
          have := nix_at p.nl 0 i hx (by rw [hgl, z])
          rw [this, Nat.zero_add]
        refine ⟨fun _ g hg => ?_, fun _ hg => ?_, fun z => absurd q1 z, ⟨i, by omega, rfl⟩, y3⟩
        · rw [hx2] at hg; cases hg; exact ⟨rfl, hp, h37⟩
        · rw [hx2] at hg; cases hg
      · rw [if_neg (fun y => z (by rw [lN_eqI (e27_lt a1 a2) hlt] at y; exact e27_inj a1 b1 y)), wq_some, fhK_l, nI_1]
        refine ⟨rfl, fun j hj => ?_⟩
        rcases Nat.lt_succ_iff_lt_or_eq.mp hj with y | y
        · exact hx j y
        · rw [y, hgl]; exact fun e => z (Option.some.inj e)
    · rintro x ⟨rfl, hx⟩
      unfold f_X12_guestNamed_7
      have hno : nix p.nl 0 (lt T k) = none := nix_no p.nl 0 hx
      rw [s291, if_pos (nI_le (Nat.le_refl _) (by omega)), if_pos hp.2.2.1, wq_let, wq_some, fhK_r, h37]
      obtain ⟨c, f⟩ := m_fail (q := (3, fm T k)) hp.2.2.1
      exact ⟨fun _ g hg => by (rw [hno] at hg; cases hg), fun _ _ => ⟨c, Nat.le_of_ble_eq_true rfl, Nat.le_of_ble_eq_true rfl⟩, fun z => absurd q1 z, ⟨0, by decide, rfl⟩, fr_tr y3 f⟩
  · obtain ⟨hF, hv⟩ := y2 q1
    have hF := mF_tF hF (aF_b q1)
    have := ms_namedN hF s291 h5
    unfold f_X12_guestNamed at this
    rw [m_nameN (tF_n hF), wq_bind, wq_some] at this
    rw [hv]
    refine wq_mono this (fun r z => ?_)
    rw [z.1]
    exact ⟨fun z => absurd z q1, fun z => absurd z q1, fun _ => hF, z.2, y3⟩
end
