/-! ANEW: which rows fit what was heard -/
def heV (W : gW) (H : tT) : Prop := H.2 % 3 = 0 ∧ H.2 / 3 ≤ 16 ∧ (∀ j, j < H.2 / 3 → hrj W H j) ∧ ∀ i, H.1 i < 256
def heF (H : tT) (σ : fhM) : Prop := σ.1 76 13 = nI (H.2 / 3) ∧ ∀ k, k < H.2 → σ.1 90 k = nI (H.1 k)
def heM (H : tT) (σ : fhM) : Prop := σ.1 0 68 = nI (H.2 / 3) ∧ ∀ k, k < H.2 → σ.1 50 k = nI (H.1 k)
def cnd (W : gW) (H : tT) (r j : Nat) : Bool := decide (fk W r (H.1 (3 * j + 1)) ≤ H.1 (3 * j)) == decide (H.1 (3 * j + 2) = 1)
def fitB (W : gW) (H : tT) (r : Nat) : Bool := (List.range (H.2 / 3)).all (cnd W H r)
def fitL (W : gW) (H : tT) : List Nat := (rl W.N W.al).filter (fitB W H)
theorem fit_t {W : gW} {H : tT} {r : Nat} (h : ∀ k, k < H.2 / 3 → cnd W H r k = true) : fitB W H r = true := List.all_eq_true.mpr (fun k hk => h k (List.mem_range.mp hk))
theorem fit_f {W : gW} {H : tT} {r k : Nat} (hk : k < H.2 / 3) (h : ¬ cnd W H r k = true) : fitB W H r = false := by
  rw [Bool.eq_false_iff]
  exact fun z => h (List.all_eq_true.mp z k (List.mem_range.mpr hk))
theorem cnd_e {W : gW} {H : tT} {r j : Nat} : ((if H.1 (3 * j) < fk W r (H.1 (3 * j + 1)) then (0 : Int32) else 1) = (if H.1 (3 * j + 2) = 1 then (1 : Int32) else 0)) = (cnd W H r j = true) := by
  unfold cnd
  by_cases a : fk W r (H.1 (3 * j + 1)) ≤ H.1 (3 * j)
  · rw [if_neg (by omega), decide_eq_true a]
    by_cases b : H.1 (3 * j + 2) = 1
    · rw [if_pos b, decide_eq_true b]
      decide
    · rw [if_neg b, decide_eq_false b]
      decide
  · rw [if_pos (by omega), decide_eq_false a]
    by_cases b : H.1 (3 * j + 2) = 1
    · rw [if_pos b, decide_eq_true b]
      decide
    · rw [if_neg b, decide_eq_false b]
      decide
theorem it01 (c d : Prop) [Decidable c] [Decidable d] (h : c = d) (a b : Int32) : (if c then a else b) = if d then a else b := by
  cases h
  congr
section
variable {W : gW} {H : tT}
theorem c_isFit (hW : wOK W) {σ : fhM} (h : fkT W σ) (hF : heF H σ) (hV : heV W H) {r : Nat} (hr : W.al r = true) : f_X1_isFitting (nI r) σ = some (fitB W H r) := by
  obtain ⟨v1, v2, v3, v4⟩ := hV
  have hg5 := hW.1
  refine wq_eq ?_
  unfold f_X1_isFitting
  refine wq_for (R := fun j x => x = nI (3 * j) ∧ ∀ k, k < j → cnd W H r k = true) 0 (H.2 / 3) (Nat.zero_le _) ?_ ?_ ⟨rfl, fun k hk => absurd hk (Nat.not_lt_zero _)⟩
  · rintro j x - hj ⟨rfl, hk⟩
    unfold f_X1_isFitting_2 f_X1_isFitting_43 f_X1_isFitting_64
    obtain ⟨a1, a2, a3⟩ := v3 j hj
    have hf := fk_le W r (H.1 (3 * j + 1))
    rw [hF.1, show (3 : Int32) = nI 3 from rfl, pk_mul, if_neg (nI_ge (by omega) (by omega)), nI_1, show (2 : Int32) = nI 2 from rfl, nI_add, nI_add, cg89 (by omega), cg89 (by omega), cg89 (by omega), hF.2 _ (by omega), hF.2 _ (by omega), hF.2 _ (by omega), c_first hW h hr a2]
    have e1 : (if nI (H.1 (3 * j)) < nI (fk W r (H.1 (3 * j + 1))) then (0 : Int32) else 1) = if H.1 (3 * j) < fk W r (H.1 (3 * j + 1)) then (0 : Int32) else 1 := it01 _ _ (nI_ltP (by omega) (by omega)) _ _
    have e2 : (if nI (H.1 (3 * j + 2)) = (1 : Int32) then (1 : Int32) else 0) = if H.1 (3 * j + 2) = 1 then (1 : Int32) else 0 := it01 _ _ (nI_eq1 (by omega)) _ _
    by_cases c : cnd W H r j = true
    · rw [if_pos (by rw [e1, e2, cnd_e]; exact c), wq_some, fhK_l]
      refine ⟨by congr 1, fun k hk2 => ?_⟩
      rcases Nat.lt_or_ge k j with e | e
      · exact hk k e
      · have : k = j := by omega
        rw [this]
        exact c
    · rw [if_neg (by rw [e1, e2, cnd_e]; exact c), wq_some, fhK_r]
      exact (fit_f hj c).symm
  · rintro x ⟨rfl, hk⟩
    unfold f_X1_isFitting_2
    rw [hF.1, show (3 : Int32) = nI 3 from rfl, pk_mul, if_pos (nI_le (Nat.le_refl _) (by omega)), wq_some, fhK_r]
    exact (fit_t hk).symm
theorem m_doesFit (hW : wOK W) {σ : fhM} (hal : alM W σ) (h : knT W σ) (hM : heM H σ) (hV : heV W H) {r : Nat} (hr : r < W.N) : f_X12_doesFit (nI r) σ = some (W.al r && fitB W H r) := by
  obtain ⟨v1, v2, v3, v4⟩ := hV
  have hg5 := hW.1
  have hN10 := hW.2.1
  unfold f_X12_doesFit
  rw [if_pos (ph_in1 (by omega) (by omega)), ph_ix (by omega), hal r hr]
  by_cases q : W.al r = true
  · rw [if_neg (by rw [al01]; exact not_not_intro q), q, Bool.true_and]
    refine wq_eq ?_
    refine wq_for (R := fun j x => x = nI j ∧ ∀ k, k < j → cnd W H r k = true) 0 (H.2 / 3) (Nat.zero_le _) ?_ ?_ ⟨rfl, fun k hk => absurd hk (Nat.not_lt_zero _)⟩
    · rintro j x - hj ⟨rfl, hk⟩
      unfold f_X12_doesFit_13 f_X12_doesFit_63
      obtain ⟨a1, a2, a3⟩ := v3 j hj
      have hf := fk_le W r (H.1 (3 * j + 1))
      have e30 : (3 : Int32) * nI j = nI (3 * j) := by rw [show (3 : Int32) = nI 3 from rfl, pk_mul]
      have e31 : (3 : Int32) * nI j + (1 : Int32) = nI (3 * j + 1) := by rw [e30, nI_1]
      have e32' : (3 : Int32) * nI j + (2 : Int32) = nI (3 * j + 2) := by rw [e30, show (2 : Int32) = nI 2 from rfl, nI_add]
      rw [hM.1, if_neg (nI_ge hj (by omega)), e31, e32', e30, if_pos (in2 (by omega) (by omega) (by decide) (by decide)), ph_ix (by omega), ph_ix (by omega), hM.2 _ (by omega), hM.2 _ (by omega), m_knewAt hW h (by omega) q a2, wq_bind, wq_some, if_pos (ph_in1 (by omega) (by omega)), ph_ix (by omega), hM.2 _ (by omega), nI_1]
      have e1 : fhb (decide (fk W r (H.1 (3 * j + 1)) ≤ H.1 (3 * j))) = if H.1 (3 * j) < fk W r (H.1 (3 * j + 1)) then (0 : Int32) else 1 := by
        by_cases c : fk W r (H.1 (3 * j + 1)) ≤ H.1 (3 * j)
        · rw [decide_eq_true c, if_neg (by omega)]
          rfl
        · rw [decide_eq_false c, if_pos (by omega)]
          rfl
      have e2 : (if nI (H.1 (3 * j + 2)) = (1 : Int32) then (1 : Int32) else 0) = if H.1 (3 * j + 2) = 1 then (1 : Int32) else 0 := it01 _ _ (nI_eq1 (by omega)) _ _
      by_cases c : cnd W H r j = true
      · rw [if_pos (by rw [e1, e2, cnd_e]; exact c), wq_some, fhK_l]
        refine ⟨rfl, fun k hk2 => ?_⟩
        rcases Nat.lt_or_ge k j with e | e
        · exact hk k e
        · have : k = j := by omega
          rw [this]
          exact c
      · rw [if_neg (by rw [e1, e2, cnd_e]; exact c), wq_some, fhK_r]
        exact (fit_f hj c).symm
    · rintro x ⟨rfl, hk⟩
      unfold f_X12_doesFit_13
      rw [hM.1, if_pos (nI_le (Nat.le_refl _) (by omega)), wq_some, fhK_r]
      exact (fit_t hk).symm
  · rw [if_pos (by rw [al01]; exact q), Bool.eq_false_iff.mpr q, Bool.false_and]
end
