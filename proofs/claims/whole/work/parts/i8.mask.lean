/-! QUESTIONS in the reference: read -/
def mQr (T : tT) (v : Int32) (s : fhM) : Prop := match sQ T with
  | .inl e => tF e s
  | .inr x => v = nI x.1 ∧ x.1 ≤ 5 ∧ s.1 0 5 = 0 ∧ s.1 0 6 = -1 ∧ rS x.2 s ∧ x.2.length ≤ 1600 ∧ ∃ j, rd T true [] rdN (if x.1 < 3 then 0 else 3) 0 1 = some (.inr (j, x.2))
section
variable {T : tT}
theorem kdQ_w {T : tT} {j : Nat} {w : List Nat} (hj : j ≤ 5) (hw : wws[26 + j]? = some w) : (kd T 0 = 1 ∧ lt T 0 = w) ↔ kdQ T = j := by
  have e : ow (lt T 0) = 26 + j ↔ wws[26 + j]? = some (lt T 0) := ow_eq (by omega)
  unfold kdQ
  constructor
  · rintro ⟨h1, h2⟩
    have h3 : ow (lt T 0) = 26 + j := e.mpr (by rw [h2]; exact hw)
    rw [if_pos ⟨h1, by omega, by omega⟩]
    omega
  · intro h
    by_cases c : kd T 0 = 1 ∧ 26 ≤ ow (lt T 0) ∧ ow (lt T 0) ≤ 31
    · rw [if_pos c] at h
      have := e.mp (by omega)
      rw [hw] at this
      exact ⟨c.1, (Option.some.inj this).symm⟩
    · rw [if_neg c] at h
      omega
theorem m_qKind (hT : tOK T) {s0 : fhM} (hp : mP T 0 s0) (hw : mW s0) : wq (f_X12_qKind s0) (fun r => ((kdQ T ≤ 5 ∧ r.1 = nI (kdQ T) ∧ mP T 1 r.2) ∨ (kdQ T = 9 ∧ mF (1, fm T 0) r.2)) ∧ fr mD s0 r.2) := by
  have hk9 : kdQ T ≤ 5 ∨ kdQ T = 9 := by
    unfold kdQ
    split
    · left; omega
    · right; rfl
  have fin : ∀ {v : Nat} {s : fhM}, v < 5 → mP T 1 s → kdQ T = v → fr mD s0 s → wq (f_X12_qKind_76 (nI v) s) (fun r => ((kdQ T ≤ 5 ∧ r.1 = nI (kdQ T) ∧ mP T 1 r.2) ∨ (kdQ T = 9 ∧ mF (1, fm T 0) r.2)) ∧ fr mD s0 r.2) := by
    intro v s hv hm he hf
    unfold f_X12_qKind_76
    rw [if_neg (show ¬ nI v = (5 : Int32) from nIn (a := v) (b := 5) (by omega) (by omega) (by decide)), wq_some]
    exact ⟨Or.inl ⟨by omega, by rw [he], hm⟩, hf⟩
  have a0 := kdQ_w (T := T) (j := 0) (by decide) (w := [102, 105, 114, 115, 116]) (by decide)
  have a1 := kdQ_w (T := T) (j := 1) (by decide) (w := [108, 97, 115, 116]) (by decide)
  have a2 := kdQ_w (T := T) (j := 2) (by decide) (w := [111, 102, 116, 101, 110]) (by decide)
  have a3 := kdQ_w (T := T) (j := 3) (by decide) (w := [116, 111, 116, 97, 108]) (by decide)
  have a4 := kdQ_w (T := T) (j := 4) (by decide) (w := [109, 111, 115, 116]) (by decide)
  have a5 := kdQ_w (T := T) (j := 5) (by decide) (w := [108, 101, 97, 115, 116]) (by decide)
  unfold f_X12_qKind
  rw [wq_bind]
  refine wq_mono (m_takes hT hp (mw52 hw)) ?_
  rintro ⟨b, s1⟩ ⟨rfl, h1, f1⟩
  (try dsimp only at h1 f1 ⊢)
  by_cases c0 : kd T 0 = 1 ∧ lt T 0 = [102, 105, 114, 115, 116]
  · rw [if_pos c0] at h1
    rw [if_pos (decide_eq_true c0)]
    exact fin (v := 0) (by decide) h1 (a0.mp c0) f1
  · rw [if_neg c0] at h1
    rw [if_neg (by rw [decide_eq_true_iff]; exact c0), wq_bind]
    have n0 : kdQ T ≠ 0 := fun z => c0 (a0.mpr z)
    have w1 := mW_m hw f1
    refine wq_mono (m_takes hT h1.1 (mw53 w1)) ?_
    rintro ⟨b, s2⟩ ⟨rfl, h2, f2⟩
    (try dsimp only at h2 f2 ⊢)
    have g2 := fr_tr f1 f2
    by_cases c1 : kd T 0 = 1 ∧ lt T 0 = [108, 97, 115, 116]
    · rw [if_pos c1] at h2
      rw [if_pos (decide_eq_true c1)]
      exact fin (v := 1) (by decide) h2 (a1.mp c1) g2
    · rw [if_neg c1] at h2
      rw [if_neg (by rw [decide_eq_true_iff]; exact c1), wq_bind]
      have n1 : kdQ T ≠ 1 := fun z => c1 (a1.mpr z)
      have w2 := mW_m w1 f2
      refine wq_mono (m_takes hT h2.1 (mw54 w2)) ?_
      rintro ⟨b, s3⟩ ⟨rfl, h3, f3⟩
      (try dsimp only at h3 f3 ⊢)
      have g3 := fr_tr g2 f3
      by_cases c2 : kd T 0 = 1 ∧ lt T 0 = [111, 102, 116, 101, 110]
      · rw [if_pos c2] at h3
        rw [if_pos (decide_eq_true c2)]
        exact fin (v := 2) (by decide) h3 (a2.mp c2) g3
      · rw [if_neg c2] at h3
        rw [if_neg (by rw [decide_eq_true_iff]; exact c2), wq_bind]
        have n2 : kdQ T ≠ 2 := fun z => c2 (a2.mpr z)
        have w3 := mW_m w2 f3
        refine wq_mono (m_takes hT h3.1 (mw55 w3)) ?_
        rintro ⟨b, s4⟩ ⟨rfl, h4, f4⟩
        (try dsimp only at h4 f4 ⊢)
        have g4 := fr_tr g3 f4
        by_cases c3 : kd T 0 = 1 ∧ lt T 0 = [116, 111, 116, 97, 108]
        · rw [if_pos c3] at h4
          rw [if_pos (decide_eq_true c3)]
          exact fin (v := 3) (by decide) h4 (a3.mp c3) g4
        · rw [if_neg c3] at h4
          rw [if_neg (by rw [decide_eq_true_iff]; exact c3), wq_bind]
          have n3 : kdQ T ≠ 3 := fun z => c3 (a3.mpr z)
          have w4 := mW_m w3 f4
          refine wq_mono (m_takes hT h4.1 (mw56 w4)) ?_
          rintro ⟨b, s5⟩ ⟨rfl, h5, f5⟩
          (try dsimp only at h5 f5 ⊢)
          have g5 := fr_tr g4 f5
          by_cases c4 : kd T 0 = 1 ∧ lt T 0 = [109, 111, 115, 116]
          · rw [if_pos c4] at h5
            rw [if_pos (decide_eq_true c4)]
            exact fin (v := 4) (by decide) h5 (a4.mp c4) g5
          · rw [if_neg c4] at h5
            rw [if_neg (by rw [decide_eq_true_iff]; exact c4)]
            have n4 : kdQ T ≠ 4 := fun z => c4 (a4.mpr z)
            have w5 := mW_m w4 f5
            unfold f_X12_qKind_76
            rw [if_pos rfl, wq_bind]
            refine wq_mono (m_asks hT h5.1 (mw57 w5)) ?_
            rintro s6 ⟨h6, f6⟩
            rw [wq_some]
            refine ⟨?_, fr_tr g5 f6⟩
            by_cases c5 : kd T 0 = 1 ∧ lt T 0 = [108, 101, 97, 115, 116]
            · rw [if_pos c5] at h6
              have e5 := a5.mp c5
              exact Or.inl ⟨by omega, by rw [e5]; rfl, h6⟩
            · rw [if_neg c5] at h6
              have n5 : kdQ T ≠ 5 := fun z => c5 (a5.mpr z)
              exact Or.inr ⟨by omega, h6⟩
theorem m_109 (hT : tOK T) {q j : Nat} {c : gC} (hq : kdQ T = q) (hq5 : q ≤ 5) (hx : rdT T true [] (if q < 3 then 0 else 3) 1 = .inr (j, c)) {s : fhM} (hs : rG T true [] 0 j c [] 0 s) {Q : Int64 × fhM → Prop} {s0 : fhM} (hf : fr rD s0 s) (hQ : ∀ v s, mQr T v s → fr rD s0 s → wq (f_X12_ask_133 v s) Q) : wq (f_X12_ask_109 (nI q) s) Q := by
  have h9 : ¬ kdQ T = 9 := by omega
  have hrd := rdT_some (T := T) hT.1 (q := true) (nl := []) (w := if q < 3 then 0 else 3) (k := 1)
  rw [hx] at hrd
  have hT1 := hT.1
  unfold f_X12_ask_109
  rw [if_pos (rG_bad hs), wq_bind]
  refine wq_mono (m_look hT hs.1) ?_
  rintro ⟨v, s1⟩ ⟨hv, hA, f1⟩
  (try dsimp only at hv hA f1 ⊢)
  have hf1 : fr rD s0 s1 := fr_tr hf (fr_mo f1 (fun t j z => mD_r z))
  have hl := hs.2.2.2.2.2.1
  have hj := hs.2.1
  by_cases e : kd T j = 0
  · have e1 : v = -1 := by rw [hv]; exact if_pos e
    rw [if_pos e1]
    refine hQ _ _ ?_ hf1
    unfold mQr sQ
    rw [if_neg h9, hq, hx]
    (try dsimp only)
    rw [gif_t e]
    refine ⟨rfl, hq5, hA.1.2.2.1, hA.1.2.2.2.2.2.2, rS_fr hs.2.2.2.1 (f1.2 _ _ (by unfold mD; omega)) (fun i => f1.2 _ _ (by unfold mD; omega)), (by show c.length ≤ 1600; have : ([] : List Nat).length = 0 := rfl; omega), j, hrd⟩
  · have e1 : ¬ v = -1 := by
      rw [hv]
      unfold mc
      rw [if_neg e]
      exact ph_m1n (Nat.lt_trans (hT.2 _) (by decide))
    rw [if_neg e1]
    unfold fhlet
    (try dsimp only)
    obtain ⟨a, b⟩ := m_fail (q := (1, fm T j)) hA.1.2.2.1
    rw [hA.2]
    refine hQ _ _ ?_ (fr_tr hf1 (fr_mo b (fun t j z => mD_r z)))
    unfold mQr sQ
    rw [if_neg h9, hq, hx]
    (try dsimp only)
    rw [gif_f e]
    exact ⟨a, Nat.le_refl 1, (show 1 ≤ 6 by decide)⟩
end
