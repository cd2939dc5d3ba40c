/-! QUESTIONS in the reference: ask -/
section
variable {W : gW} {G : gG} {S : List gG} {T : tT}
def aqM (t j : Nat) : Prop := rD t j ∨ (t = 0 ∧ (j = 1 ∨ j = 3 ∨ j = 7 ∨ j = 8 ∨ j = 48 ∨ j = 51 ∨ j = 105 ∨ j = 106 ∨ j = 107)) ∨ t = 47 ∨ t = 48 ∨ t = 78
theorem aqM_r {t j : Nat} (h : rD t j) : aqM t j := Or.inl h
theorem m_readA (hT : tOK T) {s0 : fhM} (hG : rG T true [] 0 0 [] [] 0 s0) {Q : Int64 × fhM → Prop} (hQ : ∀ v s, mQr T v s → fr rD s0 s → wq (f_X12_ask_133 v s) Q) : wq (Option.bind (f_X12_qKind s0) fun q1 => if (q1.2.1 0 5) = 0 then if (3 : Int32) ≤ q1.1 then f_X12_ask_98 q1.1 q1.2 else Option.bind (f_X12_qTest q1.2) fun q2 => f_X12_ask_109 q1.1 q2 else f_X12_ask_98 q1.1 q1.2) Q := by
  have bad : ∀ v s e, sQ T = .inl e → tF e s → fr rD s0 s → wq (f_X12_ask_109 v s) Q := fun v s e h1 h2 h3 => by
    unfold f_X12_ask_109
    rw [if_neg (tF_n h2)]
    exact hQ v s (by unfold mQr; rw [h1]; exact h2) h3
  rw [wq_bind]
  refine wq_mono (m_qKind hT hG.1 hG.2.2.1) ?_
  rintro ⟨v, s⟩ ⟨h, f1⟩
  (try dsimp only at h f1 ⊢)
  have g1 : fr rD s0 s := fr_mo f1 (fun t j z => mD_r z)
  rcases h with ⟨k5, rfl, hm⟩ | ⟨k9, hm⟩
  · have h9 : ¬ kdQ T = 9 := by omega
    have hk1 : kd T 0 = 1 := by
      by_cases c : kd T 0 = 1
      · exact c
      · exfalso
        have : kdQ T = 9 := by
          unfold kdQ
          exact if_neg (fun z => c z.1)
        omega
    have hT0 : 1 ≤ T.2 := by
      have h1 := to_gt (T := T) (k := 0) (by omega)
      have h2 := to_le T 0
      have h3 := fm_ge T 0
      omega
    have hG1 : rG T true [] 0 1 [] [] 0 s := by
      obtain ⟨a1, a2, a3, a4, a5, a6, a7, a8, a9, a10, a11⟩ := hG
      have e : ∀ j, j = 48 ∨ (99 ≤ j ∧ j ≤ 103) → s.1 0 j = s0.1 0 j := fun j h => f1.2 _ _ (by unfold mD; omega)
      exact ⟨hm, hT0, mW_m a3 f1, rS_fr a4 (e 99 (by omega)) (fun i => f1.2 _ _ (by unfold mD; omega)), ⟨by rw [e 101 (by omega)]; exact a5.1, trivial⟩, Nat.zero_le _, by rw [e 102 (by omega)]; exact a7, by rw [e 103 (by omega)]; exact a8, a9, by rw [e 48 (by omega)]; exact a10, fun z => (by cases z)⟩
    rw [if_pos (rG_bad hG1)]
    generalize hq : kdQ T = q at k5
    by_cases c : q < 3
    · have hrd := rdT_some (T := T) hT.1 (q := true) (nl := []) (w := 0) (k := 1)
      rw [if_neg (show ¬ (3 : Int32) ≤ nI q by rw [show (3 : Int32) = nI 3 from rfl, nI_leP (by omega) (by omega)]; omega), wq_bind]
      refine wq_mono (r_test hT hrd hG1 (by decide)) ?_
      rintro s2 ⟨h2, f2⟩
      have g2 := fr_tr g1 f2
      cases hx : rdT T true [] 0 1 with
      | inl e =>
        rw [hx] at h2
        refine bad _ _ e ?_ h2 g2
        unfold sQ
        rw [if_neg h9, hq, if_pos c, hx]
      | inr x =>
        rw [hx] at h2
        exact m_109 hT hq k5 (j := x.1) (c := x.2) (by rw [if_pos c]; exact hx) h2 g2 hQ
    · have hrd := rdT_some (T := T) hT.1 (q := true) (nl := []) (w := 3) (k := 1)
      rw [if_pos (show (3 : Int32) ≤ nI q by rw [show (3 : Int32) = nI 3 from rfl, nI_leP (by omega) (by omega)]; omega)]
      unfold f_X12_ask_98
      rw [if_pos (rG_bad hG1), wq_bind]
      cases hx : rdT T true [] 3 1 with
      | inl e =>
        rw [hx] at hrd
        refine wq_mono (r_sums hT hrd hG1 (by decide) (fun u hu => by cases hu)) ?_
        rintro s2 ⟨h2, f2⟩
        refine bad _ _ e ?_ ⟨h2.1, h2.2.1, h2.2.2.1⟩ (fr_tr g1 f2)
        unfold sQ
        rw [if_neg h9, hq, if_neg c, hx]
      | inr x =>
        rw [hx] at hrd
        refine wq_mono (r_sums hT hrd hG1 (by decide) (fun u hu => by cases hu)) ?_
        rintro s2 ⟨h2, f2⟩
        exact m_109 hT hq k5 (j := x.1) (c := x.2) (by rw [if_neg c]; exact hx) h2 (fr_tr g1 f2) hQ
  · have htf : tF (1, fm T 0) s := ⟨hm, Nat.le_refl 1, (show 1 ≤ 6 by decide)⟩
    rw [if_neg (tF_n htf)]
    unfold f_X12_ask_98
    rw [if_neg (tF_n htf)]
    refine bad _ _ (1, fm T 0) ?_ htf g1
    unfold sQ
    rw [if_pos k9]
end
