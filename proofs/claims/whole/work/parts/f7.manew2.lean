/-! ANEW in the reference: the groups ahead of the rounds -/
theorem in2 {a b n m : Nat} (ha : a < n) (hb : b < m) (hn : n < 2 ^ 31) (hm : m < 2 ^ 31) : (fhin (nI a) n && (fhin (nI b) m && true)) = true := by
  rw [ph_in (by omega), ph_in (by omega), decide_eq_true ha, decide_eq_true hb]
  rfl
theorem e1024 (i x : Nat) : (1024 : Int32) * nI i + nI x = nI (1024 * i + x) := by
  rw [show (1024 : Int32) = nI 1024 from rfl, pk_mul, nI_add]
def alM (W : gW) (σ : fhM) : Prop := ∀ r, r < W.N → σ.1 37 r = nI (if W.al r = true then 1 else 0)
theorem alM_U {W : gW} {σ : fhM} {t : Nat} {g : Nat → Int32} (h : alM W σ) (ht : t ≠ 37) : alM W (fhU σ t g) := fun r hr => by rw [fhU_o (Ne.symm ht)]; exact h r hr
theorem al01 (b : Bool) : (nI (if b = true then 1 else 0) = 0) = ¬ b = true := by cases b <;> decide
theorem gpI_cg {W : gW} (hW : wOK W) {n i : Nat} {q1 q2 : Nat → Int32} (h : gpI W n i q1) (e : ∀ r, r < 1024 → q2 (1024 * i + r) = q1 (1024 * i + r)) : gpI W n i q2 := by
  have hN := hW.2.1
  have hl : ∀ r, W.al r = true → r < 1024 := fun r hr => by have := hW.2.2.2.2.2.2.1 r hr; omega
  exact ⟨fun r hr => by rw [e r (hl r hr)]; exact h.1 r hr, fun r r2 hr hr2 => by rw [e r (hl r hr), e r2 (hl r2 hr2)]; exact h.2 r r2 hr hr2⟩
section
variable {W : gW}
theorem m_laysGroups (hW : wOK W) {σ : fhM} (hrw : rwM' W σ) (hal : alM W σ) : wq (f_X12_laysGroups σ) (fun s => ∃ q3 q1, s = fhU (fhU σ 43 q3) 41 q1 ∧ ∀ i, i < W.g → gpI W 0 i q1) := by
  have hg5 := hW.1
  have hN10 := hW.2.1
  unfold f_X12_laysGroups
  refine wq_for (R := fun i x => ∃ q3 q1, x = (nI i, fhU (fhU σ 43 q3) 41 q1) ∧ ∀ j, j < i → gpI W 0 j q1) 0 W.g (Nat.zero_le _) ?_ ?_ ⟨σ.1 43, (fhU σ 43 (σ.1 43)).1 41, by rw [fhU_id (t := 41) (fun _ => rfl), fhU_id (fun _ => rfl)]; rfl, fun j hj => absurd hj (Nat.not_lt_zero _)⟩
  · rintro i x - hi ⟨q3, q1, rfl, hq⟩
    (try dsimp only)
    unfold f_X12_laysGroups_2 f_X12_guestMany
    rw [fhU_o (show 29 ≠ 41 by decide), fhU_o (show 29 ≠ 43 by decide), hrw.2.1, if_neg (nI_ge hi (by omega))]
    refine wq_for (R := fun k x => ∃ q3, x = (nI k, fhU (fhU σ 43 q3) 41 q1) ∧ ∀ v, v < k → q3 v = -1) 0 W.N (Nat.zero_le _) ?_ ?_ ⟨q3, rfl, fun v hv => absurd hv (Nat.not_lt_zero _)⟩
    · rintro k x - hk ⟨q3, rfl, h3⟩
      (try dsimp only)
      unfold f_X12_laysGroups_12
      rw [fhU_o (show 0 ≠ 41 by decide), fhU_o (show 0 ≠ 43 by decide), hrw.2.2.1, if_neg (nI_ge hk (by omega)), if_pos (ph_in1 (by omega) (by omega)), ph_ix (by omega), fhU_IO (by decide), fhU_I, nI_1, wq_some, fhK_l]
      refine ⟨_, rfl, fun v hv => ?_⟩
      (try dsimp only)
      by_cases q : v = k
      · rw [if_pos q]
      · rw [if_neg q]
        exact h3 v (by omega)
    · rintro x ⟨q3, rfl, h3⟩
      (try dsimp only)
      unfold f_X12_laysGroups_12
      rw [fhU_o (show 0 ≠ 41 by decide), fhU_o (show 0 ≠ 43 by decide), hrw.2.2.1, if_pos (nI_le (Nat.le_refl _) (by omega)), wq_map]
      refine wq_for (R := fun x y => ∃ q3 q1, y = (nI x, fhU (fhU σ 43 q3) 41 q1) ∧ (∀ j, j < i → gpI W 0 j q1) ∧ ldI W (fun r => W.vw r i) W.N x i q3 q1) 0 W.N (Nat.zero_le _) ?_ ?_ ⟨q3, q1, rfl, hq, fun k hk => Or.inl ⟨h3 k hk, fun r hr => absurd hr (Nat.not_lt_zero _)⟩⟩
      · rintro x y - hx ⟨q3, q1, rfl, hq, hld⟩
        (try dsimp only)
        unfold f_X12_laysGroups_35 f_X12_laysGroups_103
        have hal1 := alM_U (alM_U (t := 43) (g := q3) hal (by decide)) (t := 41) (g := q1) (by decide)
        have hvw := hW.2.2.2.2.2.1 x i hx
        have e39 : (fhU (fhU σ 43 q3) 41 q1).1 39 (1024 * i + x) = nI (W.vw x i) := by
          rw [fhU_o (by decide), fhU_o (by decide)]
          exact hrw.2.2.2 x i hx hi
        have keep : ∀ {q2 : Nat → Int32}, (∀ j, j ≠ 1024 * i + x → q2 j = q1 j) → ∀ j, j < i → gpI W 0 j q2 := fun {q2} h j hj => gpI_cg hW (hq j hj) (fun r hr => h _ (by omega))
        rw [fhU_o (show 0 ≠ 41 by decide), fhU_o (show 0 ≠ 43 by decide), hrw.2.2.1, if_neg (nI_ge hx (by omega)), if_pos (ph_in1 (by omega) (by omega)), ph_ix (by omega), hal1 x hx]
        by_cases q : W.al x = true
        · rw [if_neg (by rw [al01]; exact not_not_intro q), e1024, ph_ix (k := 1024 * i + x) (by omega), e39, if_pos (in2 (by omega) (by omega) (by decide) (by decide)), ph_ix (k := W.vw x i) (by omega), fhU_o (show 43 ≠ 41 by decide), fhU_e]
          unfold f_X12_laysGroups_85 f_X12_laysGroups_103
          by_cases m : q3 (W.vw x i) = -1
          · rw [if_pos m, if_pos (ph_in1 (by omega) (by omega)), e1024, if_pos (in2 (by omega) (by omega) (by decide) (by decide)), ph_ix (k := 1024 * i + x) (by omega), ph_ix (k := W.vw x i) (by omega), fhU_IO (by decide), fhU_I, fhU_o (show 43 ≠ 41 by decide), fhI_e, fhU_I, nI_1 x, wq_some, fhK_l]
            exact ⟨_, _, rfl, keep (fun j hj => if_neg hj), ld_new hld q (by omega) m hvw⟩
          · rw [if_neg m, e1024, if_pos (in2 (by omega) (by omega) (by decide) (by decide)), ph_ix (k := 1024 * i + x) (by omega), ph_ix (k := W.vw x i) (by omega), fhU_I, fhU_o (show 43 ≠ 41 by decide), fhU_e, nI_1 x, wq_some, fhK_l]
            exact ⟨_, _, rfl, keep (fun j hj => if_neg hj), ld_old hld m hvw⟩
        · rw [if_pos (by rw [al01]; exact q), nI_1 x, wq_some, fhK_l]
          exact ⟨q3, q1, rfl, hq, ld_no hld q⟩
      · rintro y ⟨q3, q1, rfl, hq, hld⟩
        (try dsimp only)
        unfold f_X12_laysGroups_35
        rw [fhU_o (show 0 ≠ 41 by decide), fhU_o (show 0 ≠ 43 by decide), hrw.2.2.1, if_pos (nI_le (Nat.le_refl _) (by omega)), nI_1, wq_some, fhK_r, fhK_r, fhK_l]
        refine ⟨q3, q1, rfl, fun j hj => ?_⟩
        rcases Nat.lt_or_ge j i with c | c
        · exact hq j c
        · have : j = i := by omega
          rw [this]
          exact gpI_z hW hld
  · rintro x ⟨q3, q1, rfl, hq⟩
    (try dsimp only)
    unfold f_X12_laysGroups_2 f_X12_guestMany
    rw [fhU_o (show 29 ≠ 41 by decide), fhU_o (show 29 ≠ 43 by decide), hrw.2.1, if_pos (nI_le (Nat.le_refl _) (by omega)), wq_some, fhK_r]
    exact ⟨q3, q1, rfl, hq⟩
end
