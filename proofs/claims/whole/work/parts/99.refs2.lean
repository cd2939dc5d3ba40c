/-! THE REFERENCE READS A GUEST -/
section
variable {T : tT}
theorem mF_tF {e : Nat × Nat} {σ : fhM} (h : mF e σ) (h1 : 1 ≤ e.1 ∧ e.1 ≤ 6) : tF e σ := ⟨h, h1.1, h1.2⟩
theorem aF_b {T : tT} {k : Nat} (h : (aF T k).1 ≠ 0) : 1 ≤ (aF T k).1 ∧ (aF T k).1 ≤ 6 := by
  unfold aF at h ⊢
  split
  · exact ⟨Nat.le_refl _, Nat.le_of_ble_eq_true rfl⟩
  · split
    · exact ⟨Nat.le_refl _, Nat.le_of_ble_eq_true rfl⟩
    · rename_i h1 h2
      rw [if_neg h1, if_neg h2] at h
      exact absurd rfl h
theorem nF_b {T : tT} {k lo hi : Nat} (h : (nF T k lo hi).1 ≠ 0) : 1 ≤ (nF T k lo hi).1 ∧ (nF T k lo hi).1 ≤ 6 := by
  unfold nF at h ⊢
  split
  · exact ⟨Nat.le_refl _, Nat.le_of_ble_eq_true rfl⟩
  · split
    · exact ⟨Nat.le_refl _, Nat.le_of_ble_eq_true rfl⟩
    · split
      · exact ⟨Nat.le_of_ble_eq_true rfl, Nat.le_of_ble_eq_true rfl⟩
      · rename_i h1 h2 h3
        rw [if_neg h1, if_neg h2, if_neg h3] at h
        exact absurd rfl h
/-- the loop over the names behind a fault, and all behind it -/
theorem ms_g19N {e : Nat × Nat} {σ : fhM} (h : tF e σ) {n : Nat} (h1 : σ.1 29 1 = nI n) (hn : n ≤ 5) (v : Int64) : wq (fhlp (fun x => f_X12_guestTold_19 v x.1 x.2) ((0 : Int32), σ)) (fun s => s = σ) := by
  refine wq_for (R := fun i x => x = (nI i, σ)) 0 n (Nat.zero_le _) ?_ ?_ rfl
  · rintro i x - hi rfl
    (try dsimp only)
    unfold f_X12_guestTold_19
    rw [h1, if_neg (nI_ge hi (by omega)), if_neg (tF_n h)]
    unfold f_X12_guestTold_58
    rw [wq_some, fhK_l, nI_1]
  · rintro x rfl
    (try dsimp only)
    unfold f_X12_guestTold_19
    rw [h1, if_pos (nI_le (Nat.le_refl n) (by omega)), m_asksN (tF_n h), wq_bind, wq_some, m_numberN (tF_n h), wq_bind, wq_some, if_neg (tF_n h), wq_some, fhK_r]
end
