/-! ANSWERS, the reference: who knows now -/
section
variable {W : gW} {L : Nat → Bool} {w0 rd : Nat} {σ : fhM}
theorem m_now (hW : wOK W) (hrw : rwM' W σ) (hg : gmM W L w0 rd σ) (hw0 : 0 < W.g → w0 ∈ rl W.N L) : wq (f_X12_knowersNow σ) (fun r => r.1 = nI (kb W (rl W.N L) w0) ∧ ∃ t u, r.2 = fhU (fhU σ 47 t) 48 u) := by
  have hg5 := hW.1
  unfold f_X12_knowersNow
  refine wq_for (R := fun k x => ∃ t u, x = (nI (kbN W (rl W.N L) w0 k), nI k, fhU (fhU σ 47 t) 48 u)) 0 W.g (Nat.zero_le _) ?_ ?_ ⟨σ.1 47, σ.1 48, by rw [fhU_id (σ := σ) (t := 47) (fun _ => rfl), fhU_id (σ := σ) (t := 48) (fun _ => rfl)]; rfl⟩
  · rintro k x - hk ⟨t, u, rfl⟩
    (try dsimp only)
    unfold f_X12_knowersNow_4 f_X12_knowersNow_26 f_X12_guestMany
    have r1 : rwM' W (fhU (fhU σ 47 t) 48 u) := rwM'_U (rwM'_U hrw (by decide) (by decide) (by decide)) (by decide) (by decide) (by decide)
    have g1 : gmM W L w0 rd (fhU (fhU σ 47 t) 48 u) := ⟨lfM_U (lfM_U hg.1 (by decide)) (by decide), by rw [fhU_o (by decide), fhU_o (by decide)]; exact hg.2.1, by rw [fhU_o (by decide), fhU_o (by decide)]; exact hg.2.2⟩
    rw [r1.2.1, if_neg (nI_ge hk (by omega)), wq_bind]
    refine wq_mono (m_doesKnow hW r1 g1 (hw0 (by omega)) hk) (fun r z => ?_)
    obtain ⟨z1, z2⟩ := z
    rw [z1, z2, wq_some, fhK_l, ph_shl1 (by omega), ph_or, nI_1 k, kbN_s]
    refine ⟨fun j => if j = k then nI (cnv W (rl W.N L) k (W.vw w0 k)) else t j, fun j => if j = k then nI (msk W (rl W.N L) k (W.vw w0 k)) else u j, ?_⟩
    rw [fhU_IO (show 47 ≠ 48 by decide), fhU_I, fhU_I]
    cases one (msk W (rl W.N L) k (W.vw w0 k)) with
    | true => rw [if_pos rfl, if_pos rfl]
    | false => rw [if_neg (by decide), if_neg (by decide)]
  · rintro x ⟨t, u, rfl⟩
    (try dsimp only)
    unfold f_X12_knowersNow_4 f_X12_guestMany
    rw [fhU_o (show 29 ≠ 48 by decide), fhU_o (show 29 ≠ 47 by decide), hrw.2.1, if_pos (nI_le (Nat.le_refl _) (by omega)), wq_some, fhK_r]
    exact ⟨rfl, t, u, rfl⟩
end
