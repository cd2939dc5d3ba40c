/-! THE REFERENCE: a parlour stands, the whole -/
section
variable {p : fhPS} {S : List gG} {x : Nat} {T : tT} {k0 : Nat}
def stD (t j : Nat) : Prop := lD t j ∨ rnD t j ∨ sgD t j ∨ (t = 0 ∧ (j = 52 ∨ j = 47)) ∨ t = 29 ∨ t = 30 ∨ t = 32
theorem m_st34 (hT : T.2 ≤ 1600) (ho : sOK T p k0) {σ : fhM} (hr : mRp p σ) (h29 : ∀ j, j < 5 → σ.1 29 (5 + j) = σ.1 29 j) (hs : stkM S x σ) (h62 : σ.1 0 62 = 0) : wq (fhlp (fun x => f_X12_stands_34 x.1 x.2) ((0 : Int32), σ)) (fun s => mGm (wOf p) (0, wrn p, (wOf p).al, []) [] s ∧ knT (wOf p) s ∧ s.1 0 68 = 0 ∧ stM p s ∧ frl (fun t j => lD t j ∨ rnD t j ∨ sgD t j ∨ (t = 0 ∧ j = 52) ∨ t = 30 ∨ t = 32) σ s) := by
  have hg5 := ho.2.2.2.2.1
  have h1 : σ.1 29 1 = nI p.gs.length := by
    rw [hr.2.2.1.1]
    unfold fhPS.nl
    rw [List.length_map]
  refine wq_for (R := fun k y => ∃ l c, y = (nI k, fhU (fhV σ 30 l) 32 c) ∧ (∀ j, j < 5 → l j = σ.2.1 30 j) ∧ (∀ j, j < k → l (5 + j) = σ.2.1 30 j) ∧ (∀ j, j < 5 → c j = σ.1 32 j) ∧ ∀ j, j < k → c (5 + j) = nI (sbP p j)) 0 5 (Nat.zero_le _) ?_ ?_ ⟨σ.2.1 30, (fhV σ 30 (σ.2.1 30)).1 32, by rw [fhU_id (fun _ => rfl), fhV_id]; rfl, fun _ _ => rfl, fun j hj => absurd hj (Nat.not_lt_zero _), fun _ _ => rfl, fun j hj => absurd hj (Nat.not_lt_zero _)⟩
  · rintro k y - hk ⟨l, c, rfl, l1, l2, c1, c2⟩
    (try dsimp only)
    unfold f_X12_stands_34
    have hP : 2 ^ p.gs.length ≤ 32 := Nat.pow_le_pow_right (by decide) hg5
    have h2 : 0 < 2 ^ p.gs.length := Nat.pow_pos (by decide)
    have e1 : ((5 : Int32) + nI k) = nI (5 + k) := by rw [show (5 : Int32) = nI 5 from rfl, nI_add]
    have e2 : ((1 : Int32) <<< (nI p.gs.length &&& 31)) - (1 : Int32) = nI (2 ^ p.gs.length - 1) := by
      rw [ph_shl1 (by omega), show (1 : Int32) = nI 1 from rfl, nI_sub (by omega)]
    rw [e1, if_neg (show ¬ (5 : Int32) ≤ nI k by rw [show (5 : Int32) = nI 5 from rfl, nI_leP (by omega) (by omega)]; omega)]
    rw [if_pos (by rw [ph_in (by omega), ph_in (by omega), decide_eq_true (show k < 10 by omega), decide_eq_true (show 5 + k < 10 by omega)]; rfl), ph_ix (k := 5 + k) (by omega), ph_ix (k := k) (by omega)]
    have v1 : (fhU (fhV σ 30 l) 32 c).1 32 k = nI (smk k (p.bl k)) := by
      rw [fhU_e, c1 k hk]
      exact hr.2.2.2.2.2.2.2.1 k hk
    have v2 : (fhU (fhV σ 30 l) 32 c).1 29 1 = nI p.gs.length := by
      rw [fhU_o (by decide), fhV_1]
      exact h1
    have v3 : (fhU (fhV σ 30 l) 32 c).2.1 30 k = σ.2.1 30 k := by
      rw [fhU_2, fhV_e]
      exact l1 k hk
    rw [v1, v2, v3, e2, ph_and, nI_1, wq_some, fhK_l]
    refine ⟨fun j => if j = 5 + k then σ.2.1 30 k else l j, fun j => if j = 5 + k then nI (smk k (p.bl k) &&& (2 ^ p.gs.length - 1)) else c j, ?_, fun j hj => ?_, fun j hj => ?_, fun j hj => ?_, fun j hj => ?_⟩
    · rw [show ∀ (q : fhM) (g : Nat → Int32) (v : Int64), fhJ (fhU q 32 g) 30 (5 + k) v = fhU (fhJ q 30 (5 + k) v) 32 g from fun _ _ _ => rfl, fhV_J, fhU_I]
    · (try dsimp only)
      rw [if_neg (by omega)]
      exact l1 j hj
    · (try dsimp only)
      by_cases q : j = k
      · rw [if_pos (by omega), q]
      · rw [if_neg (by omega)]
        exact l2 j (by omega)
    · (try dsimp only)
      rw [if_neg (by omega)]
      exact c1 j hj
    · (try dsimp only)
      by_cases q : j = k
      · rw [if_pos (by omega), q]
        rfl
      · rw [if_neg (by omega)]
        exact c2 j (by omega)
  · rintro y ⟨l, c, rfl, l1, l2, c1, c2⟩
    (try dsimp only)
    unfold f_X12_stands_34
    have hf0 : frl (fun t _ => t = 30 ∨ t = 32) σ (fhU (fhV σ 30 l) 32 c) := frl_U (frl_V frl_rf (fun _ => Or.inl rfl)) (fun _ => Or.inr rfl)
    have e0 : ∀ t j, t ≠ 30 → t ≠ 32 → (fhU (fhV σ 30 l) 32 c).1 t j = σ.1 t j ∧ (fhU (fhV σ 30 l) 32 c).2.1 t j = σ.2.1 t j := fun t j a b => hf0.1 t j (fun z => by rcases z with z | z <;> omega)
    have hr1 : mRp p (fhU (fhV σ 30 l) 32 c) := mRp_lo ho hr (fun t j h => by
      by_cases q : t = 30
      · subst q
        refine ⟨by rw [fhU_o (by decide), fhV_1], ?_⟩
        rw [fhU_2, fhV_e]
        exact l1 j (by omega)
      · by_cases q2 : t = 32
        · subst q2
          refine ⟨by rw [fhU_e]; exact c1 j (by omega), ?_⟩
          rw [fhU_2, fhV_o (by decide)]
        · exact e0 t j q q2)
    rw [if_pos (show (5 : Int32) ≤ nI 5 by decide), wq_map]
    have e29 : ∀ j, (fhU (fhV σ 30 l) 32 c).1 29 j = σ.1 29 j := fun j => (e0 29 j (by decide) (by decide)).1
    refine wq_mono (m_st91 hT ho hr1 (by rw [e29]; exact (h29 0 (by decide)).trans hr.2.1) (by rw [e29]; exact (h29 1 (by decide)).trans h1) (by rw [e29]; exact (h29 3 (by decide)).trans hr.2.2.2.2.1) (fun i hi => by rw [fhU_e]; exact c2 i hi) (stkM_a hs (fun j => (e0 51 j (by decide) (by decide)).1) (e0 0 71 (by decide) (by decide)).1 (e0 0 72 (by decide) (by decide)).1) (by rw [(e0 0 62 (by decide) (by decide)).1]; exact h62)) ?_
    rintro s ⟨b1, b2, b3, b4⟩
    rw [fhK_r]
    have e4 : ∀ j, s.1 29 j = σ.1 29 j := fun j => by
      rw [(b4.1 29 j (by unfold lD kD rnD sgD aDm; omega)).1, e29]
    refine ⟨b1, b2, b3, ⟨by rw [e4]; exact (h29 2 (by decide)).trans hr.2.2.2.1, by rw [e4]; exact (h29 4 (by decide)).trans hr.2.2.2.2.2.1, fun g w hg => ?_⟩, frl_tr (frl_mo hf0 (fun t j z => ?_)) (frl_mo b4 (fun t j z => ?_))⟩
    · have h4 := (List.getElem?_eq_some_iff.mp hg).1
      have h5 := hr.2.2.1.2.1
      rw [(b4.1 30 (5 + g) (by unfold lD kD rnD sgD aDm; omega)).2, fhU_2, fhV_e, l2 g (by omega)]
      exact (hr.2.2.1.2.2 g w hg).2.2.2
    · rcases z with z | z
      · exact Or.inr (Or.inr (Or.inr (Or.inr (Or.inl z))))
      · exact Or.inr (Or.inr (Or.inr (Or.inr (Or.inr z))))
    · rcases z with z | z | z | z
      · exact Or.inl z
      · exact Or.inr (Or.inl z)
      · exact Or.inr (Or.inr (Or.inl z))
      · exact Or.inr (Or.inr (Or.inr (Or.inl z)))
theorem m_stands (hT : T.2 ≤ 1600) (ho : sOK T p k0) {σ : fhM} (hr : mRp p σ) (hs : stkM S x σ) (h62 : σ.1 0 62 = 0) : wq (f_X12_stands σ) (fun s => mGm (wOf p) (0, wrn p, (wOf p).al, []) [] s ∧ knT (wOf p) s ∧ s.1 0 68 = 0 ∧ s.1 0 47 = 1 ∧ stM p s ∧ frl stD σ s) := by
  unfold f_X12_stands
  refine wq_for (R := fun k y => ∃ g, y = (nI k, fhU (fhI σ 0 47 (1 : Int32)) 29 g) ∧ (∀ j, j < 5 → g j = σ.1 29 j) ∧ ∀ j, j < k → g (5 + j) = σ.1 29 j) 0 5 (Nat.zero_le _) ?_ ?_ ⟨(fhI σ 0 47 (1 : Int32)).1 29, by rw [fhU_id (fun _ => rfl)]; rfl, fun j _ => fhI_o (by decide), fun j hj => absurd hj (Nat.not_lt_zero _)⟩
  · rintro k y - hk ⟨g, rfl, g1, g2⟩
    (try dsimp only)
    unfold f_X12_stands_7
    have e1 : ((5 : Int32) + nI k) = nI (5 + k) := by rw [show (5 : Int32) = nI 5 from rfl, nI_add]
    rw [e1, if_neg (show ¬ (5 : Int32) ≤ nI k by rw [show (5 : Int32) = nI 5 from rfl, nI_leP (by omega) (by omega)]; omega), if_pos (in2 (by omega) (by omega) (by decide) (by decide)), ph_ix (k := 5 + k) (by omega), ph_ix (k := k) (by omega), fhU_e, g1 k hk, fhU_I, nI_1, wq_some, fhK_l]
    refine ⟨_, rfl, fun j hj => ?_, fun j hj => ?_⟩
    · (try dsimp only)
      rw [if_neg (by omega)]
      exact g1 j hj
    · (try dsimp only)
      by_cases q : j = k
      · rw [if_pos (by omega), q]
      · rw [if_neg (by omega)]
        exact g2 j (by omega)
  · rintro y ⟨g, rfl, g1, g2⟩
    (try dsimp only)
    unfold f_X12_stands_7
    have e0 : ∀ t j, t ≠ 29 → (t ≠ 0 ∨ j ≠ 47) → (fhU (fhI σ 0 47 (1 : Int32)) 29 g).1 t j = σ.1 t j := fun t j a b => by rw [fhU_o a, fhI_r, if_neg (by omega)]
    have hr1 : mRp p (fhU (fhI σ 0 47 (1 : Int32)) 29 g) := mRp_lo ho hr (fun t j h => by
      refine ⟨?_, rfl⟩
      by_cases q : t = 29
      · subst q
        rw [fhU_e]
        exact g1 j (by omega)
      · exact e0 t j q (by omega))
    rw [if_pos (show (5 : Int32) ≤ nI 5 by decide), wq_map]
    refine wq_mono (m_st34 hT ho hr1 (fun j hj => by rw [fhU_e, fhU_e, g1 j hj]; exact g2 j hj) (stkM_a hs (fun j => e0 51 j (by decide) (Or.inl (by decide))) (e0 0 71 (by decide) (by decide)) (e0 0 72 (by decide) (by decide))) (by rw [e0 0 62 (by decide) (by decide)]; exact h62)) ?_
    rintro s ⟨b1, b2, b3, b4, b5⟩
    rw [fhK_r]
    refine ⟨b1, b2, b3, ?_, b4, frl_tr (frl_U (frl_I frl_rf ?_) (fun j => ?_)) (frl_mo b5 (fun t j z => ?_))⟩
    · rw [(b5.1 0 47 (by unfold lD kD rnD sgD aDm; omega)).1, fhU_o (by decide), fhI_e]
    · unfold stD; omega
    · unfold stD; omega
    · unfold stD
      rcases z with z | z | z | z | z | z
      · exact Or.inl z
      · exact Or.inr (Or.inl z)
      · exact Or.inr (Or.inr (Or.inl z))
      · exact Or.inr (Or.inr (Or.inr (Or.inl ⟨z.1, Or.inl z.2⟩)))
      · exact Or.inr (Or.inr (Or.inr (Or.inr (Or.inr (Or.inl z)))))
      · exact Or.inr (Or.inr (Or.inr (Or.inr (Or.inr (Or.inr z)))))
end
