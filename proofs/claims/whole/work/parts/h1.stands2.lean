/-! THE REFERENCE: a parlour stands, from its text on -/
section
variable {p : fhPS} {S : List gG} {x : Nat} {T : tT} {k0 : Nat}
theorem mRp_lo {σ s : fhM} (ho : sOK T p k0) (h : mRp p σ) (e : ∀ t j, (29 ≤ t ∧ t ≤ 32 ∧ j < 5) ∨ (33 ≤ t ∧ t ≤ 35) ∨ (t = 0 ∧ (j = 45 ∨ j = 46)) → s.1 t j = σ.1 t j ∧ s.2.1 t j = σ.2.1 t j) : mRp p s := by
  obtain ⟨h1, h2, h3, h4, h5, h6, h7, h8, h9, h10, h11⟩ := h
  have hg5 := ho.2.2.2.2.1
  refine ⟨by rw [(e 0 46 (by omega)).1]; exact h1, by rw [(e 29 0 (by omega)).1]; exact h2, ⟨by rw [(e 29 1 (by omega)).1]; exact h3.1, h3.2.1, fun g l hg => ?_⟩, by rw [(e 29 2 (by omega)).1]; exact h4, by rw [(e 29 3 (by omega)).1]; exact h5, by rw [(e 29 4 (by omega)).1]; exact h6, fun g x hx => ?_, fun a ha => by rw [(e 32 a (by omega)).1]; exact h8 a ha,
    mTs_fr h9 (fun j => (e 33 j (by omega)).1) (fun j => (e 34 j (by omega)).1) (fun j _ => (e 35 j (by omega)).1), mTs_fr h10 (fun j => (e 33 j (by omega)).1) (fun j => (e 34 j (by omega)).1) (fun j _ => (e 35 j (by omega)).1), by rw [(e 0 45 (by omega)).1]; exact h11⟩
  · have := (List.getElem?_eq_some_iff.mp hg).1
    have := h3.2.1
    rw [(e 30 g (by omega)).2]
    exact h3.2.2 g l hg
  · have := (List.getElem?_eq_some_iff.mp hx).1
    rw [(e 31 g (by omega)).1]
    exact h7 g x hx
theorem m_st91 (hT : T.2 ≤ 1600) (ho : sOK T p k0) {σ : fhM} (hr : mRp p σ) (h5 : σ.1 29 5 = nI p.m) (h6 : σ.1 29 6 = nI p.gs.length) (h8 : σ.1 29 8 = nI p.fa.length) (h32 : ∀ i, i < 5 → σ.1 32 (5 + i) = nI (sbP p i)) (hs : stkM S x σ) (h62 : σ.1 0 62 = 0) : wq (fhlp (fun x => f_X12_stands_91 x.1 x.2) ((0 : Int32), fhI σ 0 52 (1 : Int32))) (fun s => mGm (wOf p) (0, wrn p, (wOf p).al, []) [] s ∧ knT (wOf p) s ∧ s.1 0 68 = 0 ∧ frl (fun t j => lD t j ∨ rnD t j ∨ sgD t j ∨ (t = 0 ∧ j = 52)) σ s) := by
  have hW := wOf_ok ho
  have hg5 := ho.2.2.2.2.1
  refine wq_for (R := fun k y => y = (nI k, fhI σ 0 52 (nI (p.m ^ k)))) 0 p.gs.length (Nat.zero_le _) ?_ ?_ rfl
  · rintro k y - hk rfl
    (try dsimp only)
    unfold f_X12_stands_91 f_X12_guestMany f_X12_markMany
    rw [fhI_o (show 29 ≠ 0 by decide), h6, if_neg (nI_ge hk (by omega)), fhI_e, fhI_o (show 29 ≠ 0 by decide), h5, pk_mul, fhI_I, nI_1, wq_some, fhK_l, Nat.pow_succ]
  · rintro y rfl
    (try dsimp only)
    unfold f_X12_stands_91 f_X12_guestMany
    rw [fhI_o (show 29 ≠ 0 by decide), h6, if_pos (nI_le (Nat.le_refl _) (by omega)), wq_bind]
    have hr1 : mRp p (fhI σ 0 52 (nI (p.m ^ p.gs.length))) := mRp_lo ho hr (fun t j h => ⟨by rw [fhI_r, if_neg (by omega)], rfl⟩)
    refine wq_mono (m_laysTests hT ho hr1 (by rw [fhI_o (by decide)]; exact h5) (by rw [fhI_o (by decide)]; exact h6) fhI_e (fun i hi => by rw [fhI_o (by decide)]; exact h32 i (by omega))) ?_
    rintro s1 ⟨f1, t1, t2, t3, t4⟩
    have f1' : frl (fun t j => lD t j ∨ (t = 0 ∧ j = 52)) σ s1 := frl_tr (frl_I frl_rf (Or.inr ⟨rfl, rfl⟩)) (frl_mo f1 (fun t j z => Or.inl z))
    have e1 : ∀ t j, ¬ (lD t j ∨ (t = 0 ∧ j = 52)) → s1.1 t j = σ.1 t j := fun t j h => (f1'.1 t j h).1
    have h52 : s1.1 0 52 = nI (wOf p).N := by
      rw [(f1.1 0 52 (by unfold lD kD; omega)).1, fhI_e]
      rfl
    have hrw : rwM' (wOf p) s1 := ⟨by rw [e1 29 5 (by unfold lD kD; omega)]; exact h5, by rw [e1 29 6 (by unfold lD kD; omega)]; exact h6, h52, fun r i a b => t3 r i a b⟩
    have hal : alM (wOf p) s1 := fun r hr => by
      rw [t1 r hr]
      congr 1
      show _ = if (decide (r < p.m ^ p.gs.length) && alw p r) = true then 1 else 0
      rw [decide_eq_true (show r < p.m ^ p.gs.length from hr), Bool.true_and]
    rw [wq_bind]
    refine wq_mono (m_laysAnew hW hrw hal) ?_
    rintro s2 ⟨n1, n2⟩
    rw [wq_map]
    have e2 : ∀ t j, ¬ rnD t j → s2.1 t j = s1.1 t j := fun t j h => n2.2 t j h
    have e12 : ∀ t j, t = 29 ∨ t = 31 ∨ t = 32 ∨ t = 51 ∨ (t = 0 ∧ (j = 62 ∨ j = 71 ∨ j = 72)) → s2.1 t j = σ.1 t j := fun t j h => by
      rw [e2 t j (by unfold rnD; omega), e1 t j (by unfold lD kD; omega)]
    have hm : mtb (wOf p) s2 := by
      refine ⟨rwM'_e hrw n2 (fun j => by unfold rnD; omega) (by unfold rnD; omega) (fun j => by unfold rnD; omega), by rw [e12 29 8 (by omega)]; exact h8, fun r a => ?_, fun r a => ?_, fun i a => by rw [e12 32 _ (by omega)]; exact h32 i (Nat.lt_of_lt_of_le a hg5), ?_⟩
      · rw [e2 37 r (by unfold rnD; omega)]; exact hal r a
      · rw [e2 38 r (by unfold rnD; omega)]; exact t2 r a
      · rw [e2 0 53 (by unfold rnD; omega)]; exact t4
    refine wq_mono (m_st128 ho hm ?_ ?_ ?_ (stkM_a hs (fun j => e12 51 j (by omega)) (e12 0 71 (by omega)) (e12 0 72 (by omega))) ?_) ?_
    · rw [e12 29 0 (by omega)]; exact hr.2.1
    · rw [e12 29 1 (by omega), hr.2.2.1.1]
      unfold fhPS.nl
      rw [List.length_map]
    · intro g y hy
      rw [e12 31 g (by omega)]
      exact hr.2.2.2.2.2.2.1 g y hy
    · rw [e12 0 62 (by omega)]; exact h62
    · rintro s3 ⟨b1, b2, b3⟩
      rw [fhK_r]
      refine ⟨b1, fun n r a b => ?_, b2, frl_tr (frl_tr (frl_mo f1' (fun t j z => ?_)) (frl_r n2 (fun t j z => ?_))) (frl_r b3 (fun t j z => ?_))⟩
      · rw [b3.2 40 _ (by unfold sgD aDm; omega)]
        exact n1 n r a b
      · (try dsimp only)
        rcases z with z | z
        · exact Or.inl z
        · exact Or.inr (Or.inr (Or.inr z))
      · exact Or.inr (Or.inl z)
      · exact Or.inr (Or.inr (Or.inl z))
end
