/-! THE CLASS: parlour, the whole -/
section
variable {T : tT}
def cpD (P t : Nat) : Prop := qD P t ∨ bD t ∨ aDc t
def cParR (T : tT) (P P2 : Nat) (σ : fhM) (r : Int32 × fhM) : Prop := match sFull T with
  | .inl e => ∃ s0, cF e s0 ∧ fpl (qD P) (fhI σ 0 1 (0 : Int32)) s0 ∧ r = ((-1 : Int32), fhI (fhI (fhI s0 0 17 (nI e.1)) 0 18 (nI e.2)) 101 1 (σ.1 101 1 + 1))
  | .inr p => r.1 = nI p.n ∧ cGm (wOf p) (0, wrn p, (wOf p).al, []) [] r.2 ∧ r.2.1 57 3 = 0 ∧ r.2.1 76 9 = 0 ∧ r.2.1 76 13 = 0 ∧ (∃ out, cRp P p out r.2) ∧ (∃ k, sOK T p k) ∧ r.2.2.2 0 6 = P ∧ r.2.2.2 0 7 = P2 ∧ r.2.1 0 1 = 0 ∧ r.2.1 0 8 = 1 ∧ r.2.1 0 17 = 0 ∧ r.2.1 0 18 = -1 ∧ (∀ t j, ¬ cpD P t → t ≠ 0 → t ≠ 76 → r.2.1 t j = σ.1 t j) ∧ (∀ j, j ≠ 1 → j ≠ 8 → j ≠ 17 → j ≠ 18 → r.2.1 0 j = σ.1 0 j) ∧ (∀ j, r.2.2.2 76 j = σ.2.2 76 j) ∧ r.2.2.1 = σ.2.1
theorem c_parl (hT : tOK T) {P P2 : Nat} {σ : fhM} (hP : fhiP P = true) (hP2 : fhiP P2 = true) (r6 : σ.2.2 0 6 = P2) (r7 : σ.2.2 0 7 = P) (h1 : σ.1 0 1 = nI T.2) (hx : cX T σ) (hz : psF σ) : wq (f_X11_parlour σ) (fun r => cParR T P P2 σ r) := by
  have hp := ph_P hP
  have hx1 : cX T (fhI σ 0 1 (0 : Int32)) := fun i hi => by rw [fhI_o (by decide)]; exact hx i hi
  unfold f_X11_parlour f_X11_takeTape fhlet
  (try dsimp only)
  rw [r7, if_pos hP, h1]
  refine cs_read hT hP (σ := fhI σ 0 1 (0 : Int32)) r7 hx1 ?_
  intro s hF hf
  unfold cs_cont cParR f_X11_noteFault f_X11_noteFault_33 fhlet
  (try dsimp only)
  have e : ∀ t j, ¬ qD P t → s.1 t j = (fhI σ 0 1 (0 : Int32)).1 t j ∧ s.2.2 t j = σ.2.2 t j := fun t j h => hf.1 t j h
  have q0 : ¬ qD P 0 := by unfold qD pD; omega
  cases hT2 : sFull T with
  | inl er =>
    rw [hT2] at hF
    have hc : cF er s := hF
    have hn := cF_n hc
    rw [if_neg hn, fhI_s (show 17 ≠ 18 by decide), fhI_e, if_neg hn, show (1 : Int32) = nI 1 from rfl, c_refuse (by decide), wq_some, hc.1, hc.2.1]
    refine ⟨s, hc, hf, ?_⟩
    (try dsimp only)
    rw [fhI_o (show 101 ≠ 0 by decide), fhI_o (show 101 ≠ 0 by decide), (e 101 1 (by unfold qD pD; omega)).1, fhI_o (show 101 ≠ 0 by decide)]
    rfl
  | inr p =>
    rw [hT2] at hF
    obtain ⟨h39, ⟨out, hout⟩, k, ho⟩ := hF
    have h39 : s.1 3 9 = 0 := h39
    have hW := wOf_ok ho
    have s7 : s.2.2 0 7 = P := by rw [(e 0 7 q0).2]; exact r7
    have s6 : s.2.2 0 6 = P2 := by rw [(e 0 6 q0).2]; exact r6
    rw [if_pos h39, h39, fhI_s (show 17 ≠ 18 by decide), fhI_e, if_pos rfl]
    have a7 : (fhI (fhI s 0 17 (0 : Int32)) 0 18 (-1 : Int32)).2.2 0 7 = P := s7
    have a6 : (fhI (fhI s 0 17 (0 : Int32)) 0 18 (-1 : Int32)).2.2 0 6 = P2 := s6
    rw [a7, a6, if_pos hP, wq_bind]
    have hs1 : ∀ t j, t ≠ 0 → (fhI (fhR (fhR (fhI (fhI s 0 17 (0 : Int32)) 0 18 (-1 : Int32)) 0 6 P) 0 7 P2) 0 8 (1 : Int32)).1 t j = s.1 t j := fun t j h => by
      rw [fhI_o h, fhR_1, fhR_1, fhI_o h, fhI_o h]
    have hs0 : ∀ j, (fhI (fhR (fhR (fhI (fhI s 0 17 (0 : Int32)) 0 18 (-1 : Int32)) 0 6 P) 0 7 P2) 0 8 (1 : Int32)).1 0 j = if j = 8 then 1 else if j = 18 then -1 else if j = 17 then 0 else s.1 0 j := fun j => by
      by_cases c8 : j = 8
      · rw [if_pos c8, c8, fhI_e]
      · rw [if_neg c8, fhI_s c8, fhR_1, fhR_1]
        by_cases c18 : j = 18
        · rw [if_pos c18, c18, fhI_e]
        · rw [if_neg c18, fhI_s c18]
          by_cases c17 : j = 17
          · rw [if_pos c17, c17, fhI_e]
          · rw [if_neg c17, fhI_s c17]
    have hsr : ∀ t j, (fhI (fhR (fhR (fhI (fhI s 0 17 (0 : Int32)) 0 18 (-1 : Int32)) 0 6 P) 0 7 P2) 0 8 (1 : Int32)).2.2 t j = if t = 0 ∧ j = 7 then P2 else if t = 0 ∧ j = 6 then P else s.2.2 t j := fun t j => by
      rw [fhI_2, fhR_r, fhR_r]
      rfl
    have hs21 : (fhI (fhR (fhR (fhI (fhI s 0 17 (0 : Int32)) 0 18 (-1 : Int32)) 0 6 P) 0 7 P2) 0 8 (1 : Int32)).2.1 = s.2.1 := rfl
    generalize fhI (fhR (fhR (fhI (fhI s 0 17 (0 : Int32)) 0 18 (-1 : Int32)) 0 6 P) 0 7 P2) 0 8 (1 : Int32) = s1 at hs1 hs0 hsr hs21
    have hout1 : cRp P p out s1 := cRp_fr hout (fun t j a b => hs1 t j (by omega))
    refine wq_mono (c_build hP ho hout1) ?_
    rintro s2 ⟨htb, hf2⟩
    have e2 : ∀ t j, ¬ bD t → s2.1 t j = s1.1 t j ∧ s2.2.2 t j = s1.2.2 t j := fun t j h => hf2.1 t j h
    have w6 : s2.2.2 0 6 = P := by rw [(e2 0 6 (by unfold bD; omega)).2, hsr, if_neg (by decide), if_pos (by decide)]
    have hout2 : cRp P p out s2 := cRp_fr hout1 (fun t j a b => (e2 t j (by unfold bD; omega)).1)
    have hz2 : psF s2 := fun j hj => by
      rw [(e2 49 j (by unfold bD; omega)).1, hs1 49 j (by decide), (e 49 j (by unfold qD pD; omega)).1, fhI_o (by decide)]
      exact hz j hj
    have h14 : s2.1 P 14 = nI (wrn p) := hout2.2.2.2.2.2.2.1
    rw [w6, if_pos hP, h14, wq_bind]
    refine wq_mono (c_begin hW htb hz2 (wrn p)) ?_
    rintro s3 ⟨hg, h573, hf3⟩
    have e3 : ∀ t j, ¬ gD4 t → s3.1 t j = s2.1 t j ∧ s3.2.2 t j = s2.2.2 t j := fun t j h => hf3.1 t j h
    unfold f_X1_forget f_X6_wipe
    have e4 : ∀ t j, t ≠ 76 → t ≠ 93 → (fhI (fhI (fhI (fhI (fhI s3 76 9 (0 : Int32)) 76 13 (0 : Int32)) 93 1 (0 : Int32)) 93 3 (0 : Int32)) 93 4 (0 : Int32)).1 t j = s3.1 t j := fun t j a b => by
      rw [fhI_o b, fhI_o b, fhI_o b, fhI_o a, fhI_o a]
    have v6 : (fhI (fhI (fhI (fhI (fhI s3 76 9 (0 : Int32)) 76 13 (0 : Int32)) 93 1 (0 : Int32)) 93 3 (0 : Int32)) 93 4 (0 : Int32)).2.2 0 6 = P := by
      show s3.2.2 0 6 = P
      rw [(e3 0 6 (by unfold gD4; omega)).2]
      exact w6
    rw [v6, if_pos hP, wq_some]
    have eP : ∀ j t, P ≤ t → t ≤ P + 11 → (fhI (fhI (fhI (fhI (fhI s3 76 9 (0 : Int32)) 76 13 (0 : Int32)) 93 1 (0 : Int32)) 93 3 (0 : Int32)) 93 4 (0 : Int32)).1 t j = s2.1 t j := fun j t a b => by
      rw [e4 t j (by omega) (by omega), (e3 t j (by unfold gD4; omega)).1]
    have hout4 := cRp_fr hout2 (fun t j a b => eP j t a b)
    have z0 : ∀ j, (fhI (fhI (fhI (fhI (fhI s3 76 9 (0 : Int32)) 76 13 (0 : Int32)) 93 1 (0 : Int32)) 93 3 (0 : Int32)) 93 4 (0 : Int32)).1 0 j = s1.1 0 j := fun j => by
      rw [e4 0 j (by decide) (by decide), (e3 0 j (by unfold gD4; omega)).1, (e2 0 j (by unfold bD; omega)).1]
    refine ⟨hout4.1, ⟨?_, ?_, ?_, ?_, 0, ?_⟩, ?_, ?_, ?_, ⟨out, hout4⟩, ⟨k, ho⟩, v6, ?_, ?_, ?_, ?_, ?_, fun t j a b c => ?_, fun j a b c d => ?_, fun j => ?_, ?_⟩
    · refine tbF_q htb (fun t j ht => ?_)
      (try dsimp only)
      rw [e4 t j (by omega) (by omega), (e3 t j (by unfold gD4; omega)).1]
    · intro j hj
      (try dsimp only)
      rw [e4 49 j (by decide) (by decide), (e3 49 j (by unfold gD4; omega)).1]
      exact hz2 j hj
    · obtain ⟨g1, g2, g3, g4, g5⟩ := hg
      unfold gmF
      (try dsimp only)
      exact ⟨by rw [e4 56 8 (by decide) (by decide)]; exact g1, by rw [e4 56 9 (by decide) (by decide)]; exact g2, by rw [e4 56 10 (by decide) (by decide)]; exact g3, fun k hk => by rw [e4 73 k (by decide) (by decide)]; exact g4 k hk, fun r hr => by rw [e4 75 r (by decide) (by decide)]; exact g5 r hr⟩
    · refine ⟨?_, fun k e hk => by rw [List.getElem?_nil] at hk; cases hk⟩
      (try dsimp only)
      rw [fhI_s (by decide), fhI_s (by decide), fhI_e]
      rfl
    · refine ⟨?_, by decide, ?_, Nat.zero_le _, fun k G hk => by rw [List.getElem?_nil] at hk; cases hk⟩
      · (try dsimp only)
        rw [fhI_s (by decide), fhI_e]
        rfl
      · (try dsimp only)
        rw [fhI_e]
        rfl
    · (try dsimp only)
      rw [e4 57 3 (by decide) (by decide)]
      exact h573
    · (try dsimp only)
      rw [fhI_o (by decide), fhI_o (by decide), fhI_o (by decide), fhI_s (by decide), fhI_e]
    · (try dsimp only)
      rw [fhI_o (by decide), fhI_o (by decide), fhI_o (by decide), fhI_e]
    · show s3.2.2 0 7 = P2
      rw [(e3 0 7 (by unfold gD4; omega)).2, (e2 0 7 (by unfold bD; omega)).2, hsr, if_pos (by decide)]
    · (try dsimp only)
      rw [z0, hs0, if_neg (by decide), if_neg (by decide), if_neg (by decide), (e 0 1 q0).1, fhI_e]
    · (try dsimp only)
      rw [z0, hs0, if_pos rfl]
    · (try dsimp only)
      rw [z0, hs0, if_neg (by decide), if_neg (by decide), if_pos rfl]
    · (try dsimp only)
      rw [z0, hs0, if_neg (by decide), if_pos rfl]
    · (try dsimp only)
      have h93 : t ≠ 93 := fun z => a (by unfold cpD aDc; omega)
      rw [e4 t j c h93, (e3 t j (fun z => a (by unfold cpD aDc; exact Or.inr (Or.inr (Or.inr (Or.inr (Or.inr z))))))).1, (e2 t j (fun z => a (Or.inr (Or.inl z)))).1, hs1 t j b, (e t j (fun z => a (Or.inl z))).1, fhI_o b]
    · (try dsimp only)
      rw [z0, hs0, if_neg b, if_neg d, if_neg c, (e 0 j q0).1, fhI_s a]
    · show s3.2.2 76 j = σ.2.2 76 j
      rw [(e3 76 j (by unfold gD4; omega)).2, (e2 76 j (by unfold bD; omega)).2, hsr, if_neg (by omega), if_neg (by omega), (e 76 j (by unfold qD pD; omega)).2]
    · show s3.2.1 = σ.2.1
      rw [hf3.2, hf2.2, hs21, hf.2]
      rfl
end
