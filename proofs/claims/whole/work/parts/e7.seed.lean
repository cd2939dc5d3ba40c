/-! ACTIONS: seed -/
theorem nonneg_n {v : Int32} (h : 0 ≤ v.toInt) : v = nI v.toInt.toNat ∧ v.toInt.toNat < 2147483648 := by
  obtain ⟨e, a, b⟩ := iI_ex v
  refine ⟨?_, by omega⟩
  rw [← iI_n (by omega), Int.toNat_of_nonneg h]
  exact e
theorem le0_P (v : Int32) : (0 ≤ v) = (0 ≤ v.toInt) := propext (by rw [Int32.le_iff_toInt_le]; rfl)
theorem c_seed {v : Int32} (h : 0 ≤ v.toInt) (σ : fhM) : f_X11_seed v σ = (true, fhI σ 0 16 (nI v.toInt.toNat)) := by
  unfold f_X11_seed
  rw [if_pos (by rw [le0_P]; exact h), ← (nonneg_n h).1]
theorem m_seed {v : Int32} (h : 0 ≤ v.toInt) (σ : fhM) : f_X12_seed v σ = some (true, fhJ σ 0 73 (lN v.toInt.toNat)) := by
  obtain ⟨e, a⟩ := nonneg_n h
  have e2 : v.toInt64 = lN v.toInt.toNat := by
    obtain ⟨e3, b, c⟩ := iI_ex v
    have := iI_l b c
    rw [← e3] at this
    rw [this, ← lI_n (by omega), Int.toNat_of_nonneg h]
  unfold f_X12_seed
  rw [if_pos (by rw [le0_P]; exact h), e2]
