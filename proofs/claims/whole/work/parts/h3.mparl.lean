/-! THE REFERENCE: parlour, the whole -/
section
variable {S : List gG} {x : Nat} {T : tT}
def pmD (t j : Nat) : Prop := nD t j ∨ stD t j ∨ (t = 0 ∧ (j = 7 ∨ j = 8)) ∨ (t = 2 ∧ j = 1)
def mParR (T : tT) (σ : fhM) (r : Int32 × fhM) : Prop := match sFull T with
  | .inl e => r.1 = -1 ∧ r.2.1 0 1 = 0 ∧ r.2.1 0 7 = nI e.1 ∧ r.2.1 0 8 = nI e.2 ∧ r.2.1 2 1 = σ.1 2 1 + 1 ∧ frl (fun t j => nD t j ∨ (t = 0 ∧ (j = 7 ∨ j = 8)) ∨ (t = 2 ∧ j = 1)) σ r.2
  | .inr p => r.1 = nI p.n ∧ r.2.1 0 7 = 0 ∧ r.2.1 0 8 = -1 ∧ mGm (wOf p) (0, wrn p, (wOf p).al, []) [] r.2 ∧ knT (wOf p) r.2 ∧ r.2.1 0 68 = 0 ∧ r.2.1 0 47 = 1 ∧ stM p r.2 ∧ (∃ k, sOK T p k) ∧ r.2.1 2 1 = σ.1 2 1 ∧ r.2.1 0 1 = 0 ∧ frl pmD σ r.2
theorem m_parl (hT : tOK T) {σ : fhM} (h1 : σ.1 0 1 = nI T.2) (hx : ∀ i, i < T.2 → σ.1 1 i = nI (T.1 i)) (hw : mW σ) (hs : stkM S x σ) (h62 : σ.1 0 62 = 0) : wq (f_X12_parlour σ) (fun r => mParR T σ r) := by
  refine m_parlour hT h1 hx hw ?_
  intro s hF hf h01
  unfold f_X12_parlour_127 mParR
  have e : ∀ t j, ¬ nD t j → s.1 t j = σ.1 t j := fun t j h => (hf.1 t j h).1
  cases hT2 : sFull T with
  | inl er =>
    rw [hT2] at hF
    obtain ⟨⟨a1, a2⟩, a3, a4⟩ := hF
    have hne : ¬ s.1 0 5 = 0 := by
      rw [a1, nI_eq0 (by omega)]
      omega
    rw [if_neg hne, show (1 : Int32) = nI 1 from rfl, m_refuses (by decide), wq_bind, wq_some, wq_some]
    refine ⟨rfl, ?_, ?_, ?_, ?_, ?_⟩
    · (try dsimp only)
      rw [fhI_o (by decide), fhI_s (by decide), fhI_s (by decide)]
      exact h01
    · (try dsimp only)
      rw [fhI_o (by decide), fhI_s (by decide), fhI_e, a1]
    · (try dsimp only)
      rw [fhI_o (by decide), fhI_e, a2]
    · (try dsimp only)
      rw [fhI_e, fhI_o (by decide), fhI_o (by decide), e 2 1 (by unfold nD kD sD rD mD; omega)]
      rfl
    · refine frl_I (frl_I (frl_I (frl_mo hf (fun t j z => Or.inl z)) ?_) ?_) ?_
      · exact Or.inr (Or.inl ⟨rfl, Or.inl rfl⟩)
      · exact Or.inr (Or.inl ⟨rfl, Or.inr rfl⟩)
      · exact Or.inr (Or.inr ⟨rfl, rfl⟩)
  | inr p =>
    rw [hT2] at hF
    obtain ⟨k, hp, hk, hw2, ho, hr⟩ := hF
    have h5 := hp.2.2.1
    have h6 := hp.2.2.2.2.2.2
    rw [if_pos h5, wq_bind]
    have e2 : ∀ t j, ¬ (t = 0 ∧ (j = 7 ∨ j = 8)) → (fhI (fhI s 0 7 (s.1 0 5)) 0 8 (s.1 0 6)).1 t j = s.1 t j := fun t j h => by rw [fhI_r, if_neg (by omega), fhI_r, if_neg (by omega)]
    have hr2 : mRp p (fhI (fhI s 0 7 (s.1 0 5)) 0 8 (s.1 0 6)) := mRp_lo ho hr (fun t j h => ⟨e2 t j (by omega), rfl⟩)
    have hs2 : stkM S x (fhI (fhI s 0 7 (s.1 0 5)) 0 8 (s.1 0 6)) := stkM_a hs (fun j => by rw [e2 _ _ (by omega), e 51 j (by unfold nD kD sD rD mD; omega)]) (by rw [e2 _ _ (by omega), e 0 71 (by unfold nD kD sD rD mD; omega)]) (by rw [e2 _ _ (by omega), e 0 72 (by unfold nD kD sD rD mD; omega)])
    refine wq_mono (m_stands hT.1 ho hr2 hs2 (by rw [e2 _ _ (by omega), e 0 62 (by unfold nD kD sD rD mD; omega)]; exact h62)) ?_
    rintro s3 ⟨b1, b2, b3, b4, b5, b6⟩
    have e3 : ∀ t j, ¬ stD t j → s3.1 t j = (fhI (fhI s 0 7 (s.1 0 5)) 0 8 (s.1 0 6)).1 t j := fun t j h => (b6.1 t j h).1
    rw [wq_some]
    refine ⟨?_, ?_, ?_, b1, b2, b3, b4, b5, ⟨k, ho⟩, ?_, ?_, ?_⟩
    · (try dsimp only)
      rw [e3 0 46 (by unfold stD lD kD rnD sgD aDm; omega)]
      exact hr2.1
    · (try dsimp only)
      rw [e3 0 7 (by unfold stD lD kD rnD sgD aDm; omega), fhI_s (by decide), fhI_e]
      exact h5
    · (try dsimp only)
      rw [e3 0 8 (by unfold stD lD kD rnD sgD aDm; omega), fhI_e]
      exact h6
    · (try dsimp only)
      rw [e3 2 1 (by unfold stD lD kD rnD sgD aDm; omega), e2 _ _ (by omega), e 2 1 (by unfold nD kD sD rD mD; omega)]
    · (try dsimp only)
      rw [e3 0 1 (by unfold stD lD kD rnD sgD aDm; omega), e2 _ _ (by omega)]
      exact h01
    · refine frl_tr (frl_I (frl_I (frl_mo hf (fun t j z => Or.inl z)) ?_) ?_) (frl_mo b6 (fun t j z => Or.inr (Or.inl z)))
      · exact Or.inr (Or.inr (Or.inl ⟨rfl, Or.inl rfl⟩))
      · exact Or.inr (Or.inr (Or.inl ⟨rfl, Or.inr rfl⟩))
end
