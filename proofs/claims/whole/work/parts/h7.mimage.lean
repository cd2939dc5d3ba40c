/-! THE REFERENCE: image -/
def ims (σ : fhM) (n : Nat) (f : Nat → Int32) : fhM := fhI (fhU σ 79 f) 0 109 (nI n)
theorem ims_o {σ : fhM} {n : Nat} {f : Nat → Int32} {t j : Nat} (h1 : t ≠ 79) (h2 : t ≠ 0 ∨ j ≠ 109) : (ims σ n f).1 t j = σ.1 t j := by
  unfold ims
  rw [fhI_r, if_neg (by omega), fhU_o h1]
theorem ims_n {σ : fhM} {n : Nat} {f : Nat → Int32} : (ims σ n f).1 0 109 = nI n := fhI_e
theorem ims_f {σ : fhM} {n j : Nat} {f : Nat → Int32} : (ims σ n f).1 79 j = f j := by
  unfold ims
  rw [fhI_o (by decide), fhU_e]
theorem m_writes {σ : fhM} {n b : Nat} {f : Nat → Int32} (hn : n < 136) : f_X12_writes (nI b) (ims σ n f) = some (ims σ (n + 1) (fun j => if j = n then nI b else f j)) := by
  unfold f_X12_writes
  rw [ims_n, if_pos (ph_in1 (by omega) hn), ph_ix (by omega), nI_1]
  unfold ims
  rw [fhI_IO (t := 0) (a := 79) (Or.inl (by decide)), fhI_I, fhU_I]
section
variable {W : gW} {G : gG}
theorem m_image (hW : wOK W) {σ : fhM} (hrw : rwM' W σ) (hg : gmM W G.L G.w G.rd σ) (hw : 0 < W.g → G.w < W.N) (hr : G.rd ≤ 999) (hi : lin W G.L) : wq (f_X12_image σ) (fun r => r.1 = nI (psz W) ∧ ∃ f, r.2 = ims σ (psz W) f ∧ ∀ j, j < psz W → f j = nI (picB W G j)) := by
  have hg5 := hW.1
  have hN10 := hW.2.1
  obtain ⟨hb1, hb2, hb3⟩ := nbt_le hW
  obtain ⟨g1, g2, g3⟩ := hg
  have hpz : psz W = 2 + W.g + nbt W + 1 := rfl
  have rw1 : ∀ n f, rwM' W (ims σ n f) := fun n f => ⟨by rw [ims_o (by decide) (by decide)]; exact hrw.1, by rw [ims_o (by decide) (by decide)]; exact hrw.2.1, by rw [ims_o (by decide) (by decide)]; exact hrw.2.2.1, fun r i a b => by rw [ims_o (by decide) (Or.inl (by decide))]; exact hrw.2.2.2 r i a b⟩
  have s0 : fhI σ 0 109 (0 : Int32) = ims σ 0 (σ.1 79) := by
    unfold ims
    rw [fhU_id (fun _ => rfl)]
    rfl
  have step : ∀ {n : Nat} {f : Nat → Int32} {b : Nat}, (∀ j, j < n → f j = nI (picF W G j)) → b = picF W G n → ∀ j, j < n + 1 → (fun j => if j = n then nI b else f j) j = nI (picF W G j) := fun {n f b} h e j hj => by
    (try dsimp only)
    by_cases c : j = n
    · rw [if_pos c, e, c]
    · rw [if_neg c]
      exact h j (by omega)
  unfold f_X12_image f_X12_writesTwo
  rw [s0, g3, show (256 : Int32) = nI 256 from rfl, nI_div (by omega) (by omega), show fhrem (nI G.rd) (nI 256) = nI (G.rd % 256) from ph_rem (by omega) (by omega) (by omega), m_writes (by omega), wq_bind, wq_bind, wq_some, m_writes (by omega), wq_bind, wq_some, wq_some]
  have f2 := step (n := 1) (b := G.rd % 256) (step (n := 0) (f := σ.1 79) (b := G.rd / 256) (fun j hj => absurd hj (Nat.not_lt_zero _)) rfl) rfl
  generalize (fun j => if j = 1 then nI (G.rd % 256) else (fun j => if j = 0 then nI (G.rd / 256) else σ.1 79 j) j) = ff at f2
  refine wq_for (R := fun k x => ∃ f, x = (nI k, ims σ (2 + k) f) ∧ ∀ j, j < 2 + k → f j = nI (picF W G j)) 0 W.g (Nat.zero_le _) ?_ ?_ ⟨_, rfl, f2⟩
  · rintro k x - hk ⟨f, rfl, hf⟩
    (try dsimp only)
    unfold f_X12_image_17 f_X12_guestMany
    have hwN := hw (by omega)
    rw [(rw1 _ _).2.1, if_neg (nI_ge hk (by omega)), ims_o (by decide) (Or.inl (by decide)), g2, mk_mo hW (rw1 _ _) hwN hk, wq_bind, wq_some, m_writes (by omega), wq_bind, wq_some, nI_1, wq_some, fhK_l]
    have hb : W.mk G.w k = picF W G (2 + k) := by
      unfold picF
      rw [if_neg (show ¬ 2 + k = 0 by omega), if_neg (show ¬ 2 + k = 1 by omega), if_pos (show 2 + k < 2 + W.g by omega), show 2 + k - 2 = k from by omega]
    exact ⟨_, rfl, step hf hb⟩
  · rintro x ⟨f, rfl, hf⟩
    (try dsimp only)
    unfold f_X12_image_17 f_X12_guestMany
    rw [(rw1 _ _).2.1, if_pos (nI_le (Nat.le_refl _) (by omega)), wq_map]
    refine wq_for (R := fun q x => ∃ f, x = (nI (8 * q), ims σ (2 + W.g + q) f) ∧ ∀ j, j < 2 + W.g + q → f j = nI (picF W G j)) 0 (nbt W) (Nat.zero_le _) ?_ ?_ ⟨f, rfl, hf⟩
    · rintro q x - hq ⟨f, rfl, hf⟩
      (try dsimp only)
      unfold f_X12_image_48
      have hq2 : 8 * q < W.N := by unfold nbt at hq; omega
      rw [(rw1 _ _).2.2.1, if_neg (nI_ge hq2 (by omega))]
      refine wq_for (R := fun b x => x = (nI (lbN G.L q b), nI b)) 0 8 (Nat.zero_le _) ?_ ?_ rfl
      · rintro b x - hb rfl
        (try dsimp only)
        unfold f_X12_image_60 fhlet
        (try dsimp only)
        have hlb := lbN_lt G.L q b
        have h8 : 2 ^ b ≤ 2 ^ 8 := Nat.pow_le_pow_right (by decide) (by omega)
        have hv : (if G.L (8 * q + b) = true then 1 else 0) * 2 ^ b = if G.L (8 * q + b) = true then 2 ^ b else 0 := by split <;> omega
        rw [if_neg (show ¬ (8 : Int32) ≤ nI b by rw [show (8 : Int32) = nI 8 from rfl, nI_leP (by omega) (by omega)]; omega), show (2 : Int32) = nI 2 from rfl, nI_add, nI_add, if_pos (ph_in1 (by omega) (by omega)), ph_ix (by omega), ims_o (by decide) (Or.inl (by decide)), show 2 + 8 * q + b = 2 + (8 * q + b) from by omega, g1 _ (by omega), ph_shl (by omega) (by rw [hv]; split <;> omega), hv, ph_or, nI_1, wq_some, fhK_l]
        rfl
      · rintro x rfl
        (try dsimp only)
        unfold f_X12_image_60
        rw [if_pos (show (8 : Int32) ≤ nI 8 by decide), m_writes (by omega), wq_bind, wq_some, show (8 : Int32) = nI 8 from rfl, nI_add, wq_some, fhK_r, fhK_l]
        have hb : lbN G.L q 8 = picF W G (2 + W.g + q) := by
          unfold picF
          rw [if_neg (show ¬ 2 + W.g + q = 0 by omega), if_neg (show ¬ 2 + W.g + q = 1 by omega), if_neg (show ¬ 2 + W.g + q < 2 + W.g by omega), show 2 + W.g + q - 2 - W.g = q from by omega]
        exact ⟨_, by rw [show 8 * q + 8 = 8 * (q + 1) from by omega]; rfl, step hf hb⟩
    · rintro x ⟨f, rfl, hf⟩
      (try dsimp only)
      unfold f_X12_image_48
      rw [(rw1 _ _).2.2.1, if_pos (nI_le hb3 (by omega)), ims_n, m_chk (v0 := 79) (f := picF W G) (by show _ ≤ 136; omega) (by decide) (fun j hj => by rw [ims_f]; exact hf j hj) (picF_lt hW hr hw), wq_bind, wq_some, m_writes (by omega), wq_bind, wq_some, ims_n, wq_some, fhK_r, fhK_r]
      refine ⟨rfl, _, rfl, fun j hj => ?_⟩
      (try dsimp only)
      unfold picB
      rw [show psz W - 1 = 2 + W.g + nbt W from by omega]
      by_cases c : j = 2 + W.g + nbt W
      · rw [if_pos c, if_pos c]
      · rw [if_neg c, if_neg c]
        exact hf j (by omega)
end
