/-! ACTIONS, the reference: another mark worn -/
section
variable {W : gW} {G : gG} {S : List gG} {σ : fhM}
theorem m_rowW (hW : wOK W) (hNm : W.N = W.m ^ W.g) (hrw : rwM' W σ) {w : Nat} (h1 : σ.1 44 1 = nI w) (hwN : w < W.N) {i v : Nat} (hi : i < W.g) (hv : v < W.m) : f_X12_rowWith (nI i) (nI v) σ = some (nI (rowW W.m w i v)) := by
  have hg5 := hW.1
  have hN10 := hW.2.1
  have hm4 := hW.2.2.2.1
  have hm2 : 2 ≤ W.m := hW.2.2.2.2.2.2.2.2.2 (by omega)
  have hPl : ∀ k, k ≤ W.g → W.m ^ k ≤ 1024 := fun k hk => by
    have : W.m ^ k ≤ W.m ^ W.g := Nat.pow_le_pow_right (by omega) hk
    omega
  have hd : w / W.m ^ i % W.m < 4 := by
    have := Nat.mod_lt (w / W.m ^ i) (show 0 < W.m by omega)
    omega
  refine wq_eq ?_
  unfold f_X12_rowWith
  refine wq_for (R := fun k x => x = (nI (W.m ^ k), nI k)) 0 i (Nat.zero_le _) ?_ ?_ rfl
  · rintro k x - hk rfl
    (try dsimp only)
    unfold f_X12_rowWith_5 f_X12_markMany
    rw [if_neg (nI_ge hk (by omega)), hrw.1, pk_mul, nI_1, ← Nat.pow_succ, wq_some, fhK_l]
  · rintro x rfl
    (try dsimp only)
    unfold f_X12_rowWith_5
    rw [if_pos (nI_le (Nat.le_refl _) (by omega)), h1, mk_mo hW hrw hwN hi, wq_bind, wq_some, wq_some, fhK_r, Int32.mul_comm]
    exact row_i (by omega) (by omega) hd (hPl i (by omega))
theorem m_wear (hW : wOK W) (hNm : W.N = W.m ^ W.g) (hg : mGm W G S σ) (hw : G.w ∈ rl W.N G.L) {i v : Nat} (hi : i < W.g) (hv : v < W.m) :
    (wrO W G.w i v → wq (f_X12_wear (nI i) (nI v) σ) (fun r => r.1 = true ∧ mGm W (gNew W G (rowW W.m G.w i v)) (psh G S) r.2 ∧ fr aDm σ r.2)) ∧ (¬ wrO W G.w i v → f_X12_wear (nI i) (nI v) σ = f_X12_isRefused 2 σ) := by
  have hg5 := hW.1
  have hN10 := hW.2.1
  have hm4 := hW.2.2.2.1
  have hwN := rl_lt _ hw
  have hr : rowW W.m G.w i v < W.N := by
    rw [hNm]
    exact rowW_lt (by rw [← hNm]; exact hwN) hi hv
  have hmk := hW.2.2.2.2.1 G.w i hwN
  have h1 := hg.2.1.2.1
  have h37 := hg.1.2.2.1 _ hr
  have hR := m_rowW hW hNm hg.1.1 h1 hwN hi hv
  have h54 : f_X12_wear_54 σ = f_X12_isRefused 2 σ := by
    unfold f_X12_wear_54 f_X12_isRefused
    rw [if_pos (by decide)]
    rfl
  unfold f_X12_wear
  rw [if_pos (by rw [m_isG _ (by omega) hg.1.1.2.1, inB_n (by omega)]; exact hi), show f_X12_markMany σ = nI W.m from hg.1.1.1, if_pos (by rw [m_inB _ (by omega), inB_n (by omega)]; exact hv), h1, mk_mo hW hg.1.1 hwN hi, hR, h54]
  show (wrO W G.w i v → wq (if nI (W.mk G.w i) = nI v then _ else _) _) ∧ (¬ wrO W G.w i v → (if nI (W.mk G.w i) = nI v then _ else _) = _)
  by_cases q1 : v = W.mk G.w i
  · refine ⟨fun z => absurd q1 z.1, fun _ => ?_⟩
    rw [if_pos (by rw [q1])]
  · rw [if_neg (fun z => q1 ((nI_eq (by omega) (by omega)).mp z).symm)]
    show (wrO W G.w i v → wq (if (fhin (nI (rowW W.m G.w i v)) 1024 && true) = true then _ else _) _) ∧ (¬ wrO W G.w i v → (if (fhin (nI (rowW W.m G.w i v)) 1024 && true) = true then _ else _) = _)
    rw [if_pos (ph_in1 (by omega) (by omega)), ph_ix (by omega), h37]
    by_cases q2 : W.al (rowW W.m G.w i v) = true
    · refine ⟨fun _ => ?_, fun z => absurd ⟨q1, q2⟩ z⟩
      rw [if_pos q2, if_neg (by decide), wq_bind]
      refine wq_mono (m_saved hg) (fun s z => ?_)
      rw [m_rowW hW hNm z.1.1.1 z.1.2.1.2.1 hwN hi hv, wq_bind, wq_some, wq_bind]
      refine wq_mono (m_worn hW z.1) (fun s2 y => ?_)
      rw [wq_some]
      exact ⟨rfl, y.1, fr_tr z.2 y.2⟩
    · refine ⟨fun z => absurd z.2 q2, fun _ => ?_⟩
      rw [if_neg q2, if_pos (by decide)]
end
