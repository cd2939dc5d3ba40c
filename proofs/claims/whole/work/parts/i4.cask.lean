/-! QUESTIONS: read, asked: the class -/
noncomputable def kdQ (T : tT) : Nat := if kd T 0 = 1 ∧ 26 ≤ ow (lt T 0) ∧ ow (lt T 0) ≤ 31 then ow (lt T 0) - 26 else 9
noncomputable def sQ (T : tT) : (Nat × Nat) ⊕ (Nat × gC) := if kdQ T = 9 then .inl (1, fm T 0) else match rdT T true [] (if kdQ T < 3 then 0 else 3) 1 with
  | .inl e => .inl e
  | .inr x => gif (kd T x.1 = 0) (.inr (kdQ T, x.2)) (.inl (1, fm T x.1))
def aqD (t : Nat) : Prop := t = 3 ∨ t = 5 ∨ t = 6 ∨ t = 8 ∨ t = 9
def cQr (T : tT) (r : Int32 × fhM) : Prop := match sQ T with
  | .inl e => cF e r.2
  | .inr x => r.2.1 3 9 = 0 ∧ r.1 = nI (26 + x.1) ∧ x.1 ≤ 5 ∧ cS 6 x.2 r.2 ∧ ∃ j, rd T true [] rdN (if x.1 < 3 then 0 else 3) 0 1 = some (.inr (j, x.2))
section
variable {T : tT} {m : Nat}
theorem gD_aq {t j : Nat} (h : gD 6 t j) : aqD t := by
  unfold gD cDf cDk at h; unfold aqD; omega
theorem c_rq86 {s0 s : fhM} {w q : Nat} (hq : kdQ T = q) (hq5 : q ≤ 5) {P : Nat} (hs : gP T m 6 P true [] 0 [] (rdT T true [] (if q < 3 then 0 else 3) 1) s0 s) (hT : T.2 ≤ 1600) : wq (f_X5_readQuestion_86 (nI (26 + q)) s) (fun r => cQr T r ∧ fpl aqD s0 r.2) := by
  have h9 : ¬ kdQ T = 9 := by omega
  have hrd := rdT_some (T := T) hT (q := true) (nl := []) (w := if q < 3 then 0 else 3) (k := 1)
  have hf : fpl aqD s0 s := fpl_r hs.2 (fun _ _ => gD_aq)
  unfold f_X5_readQuestion_86 cQr sQ
  rw [if_neg h9, hq]
  cases hx : rdT T true [] (if q < 3 then 0 else 3) 1 with
  | inl e =>
    rw [hx] at hs
    have hz : cZ 6 P true e s := hs.1
    unfold fhlet
    (try dsimp only)
    rw [c_isEndN hz.1, if_neg (show ¬ false = true by decide), c_failHereN hz.1, wq_some]
    exact ⟨hz.1, hf⟩
  | inr x =>
    obtain ⟨j, c⟩ := x
    rw [hx] at hs hrd
    have hz : cG T m 6 P true [] 0 j ([] ++ c) s := hs.1
    (try dsimp only)
    by_cases e : kd T j = 0
    · rw [if_pos (by rw [c_isEnd hz.1]; exact e), gif_t e, wq_some]
      exact ⟨⟨hz.1.2.2.2.1, rfl, hq5, hz.2.2.1, j, hrd⟩, hf⟩
    · rw [if_neg (by rw [c_isEnd hz.1]; exact e), gif_f e]
      unfold fhlet
      (try dsimp only)
      obtain ⟨a, b⟩ := c_failHere hz.1
      rw [wq_some]
      exact ⟨a, fpl_tr hf (fpl_r b (fun t j z => by unfold cDf at z; unfold aqD; omega))⟩
theorem c_readQ (hT : tOK T) (hm : tend T m) {P : Nat} (hP : fhiP P = true) {s : fhM} (hc : cP T m 0 s) (hl : s.1 6 1 = 0) : wq (f_X5_readQuestion 6 P s) (fun r => cQr T r ∧ fpl aqD s r.2) := by
  have hp := ph_P hP
  unfold f_X5_readQuestion f_X5_begin
  rw [if_pos (show (Nat.blt 0 P && (fhbit (1 : Int32) && true)) = true by rcases hp with rfl | rfl <;> rfl), wq_bind, wq_some]
  have f0 : fpl aqD s (fhI (fhI (fhR (fhR s 9 1 6) 9 2 P) 9 3 1) 9 4 0) := by
    refine fpl_I (fpl_I (fpl_R (fpl_R fpl_rf ?_) ?_) ?_) ?_
    all_goals (unfold aqD; omega)
  have hc0 : cP T m 0 (fhI (fhI (fhR (fhR s 9 1 6) 9 2 P) 9 3 1) 9 4 0) := cP_fr hc (fun j => by rw [fhI_o (by decide), fhI_o (by decide), fhR_1, fhR_1]) (fun j => by rw [fhI_o (by decide), fhI_o (by decide), fhR_1, fhR_1])
  have hH : cH 6 P true (fhI (fhI (fhR (fhR s 9 1 6) 9 2 P) 9 3 1) 9 4 0) := by
    refine ⟨?_, ?_, ?_, rfl, fun z => (by cases z)⟩
    · rw [fhI_2, fhI_2, fhR_r, if_neg (by decide), fhR_r, if_pos ⟨rfl, rfl⟩]
    · rw [fhI_2, fhI_2, fhR_r, if_pos ⟨rfl, rfl⟩]
    · rw [fhI_s (by decide), fhI_e]; rfl
  have h94 : (fhI (fhI (fhR (fhR s 9 1 6) 9 2 P) 9 3 1) 9 4 0).1 9 4 = nI 0 := fhI_e
  have h61 : (fhI (fhI (fhR (fhR s 9 1 6) 9 2 P) 9 3 1) 9 4 0).1 6 1 = 0 := by rw [fhI_o (by decide), fhI_o (by decide), fhR_1, fhR_1]; exact hl
  generalize (fhI (fhI (fhR (fhR s 9 1 6) 9 2 P) 9 3 1) 9 4 0) = s0 at *
  have e : ∀ {Q : Int32 × fhM → Prop}, (∀ r, cQr T r ∧ fpl aqD s0 r.2 → Q r) → ∀ r, cQr T r ∧ fpl aqD s0 r.2 → Q r := fun h => h
  have up : ∀ r : Int32 × fhM, cQr T r ∧ fpl aqD s0 r.2 → cQr T r ∧ fpl aqD s r.2 := fun r h => ⟨h.1, fpl_tr f0 h.2⟩
  rw [c_wh hm hc0]
  have neI : ∀ {a b : Nat}, a ≠ b → a < 2 ^ 31 → b < 2 ^ 31 → ¬ nI a = nI b := fun h ha hb => nIn h ha hb
  have hw99 : (if kd T 0 = 1 then ow (lt T 0) else 99) ≤ 99 + wws.length := by
    split
    · by_cases q : lt T 0 ∈ wws
      · obtain ⟨j, h1, h2, h3⟩ := owl_in wws 0 q
        show owl wws 0 _ ≤ _
        omega
      · show owl wws 0 _ ≤ _
        rw [owl_out wws 0 q]
        omega
    · omega
  have hwl : wws.length = 32 := by decide
  generalize hw : (if kd T 0 = 1 then ow (lt T 0) else 99) = w at hw99
  have bad : ¬ (26 ≤ w ∧ w ≤ 31) → wq (fhlet (f_X8_failHere s0) fun q2 => f_X5_readQuestion_86 (nI w) q2) (fun r => cQr T r ∧ fpl aqD s r.2) := by
    intro hb
    have h9 : kdQ T = 9 := by
      unfold kdQ
      refine if_neg (fun z => hb ?_)
      rw [if_pos z.1] at hw
      omega
    unfold fhlet f_X5_readQuestion_86
    (try dsimp only)
    obtain ⟨a, b⟩ := c_failHere hc0
    rw [c_isEndN a, if_neg (show ¬ false = true by decide)]
    unfold fhlet
    (try dsimp only)
    rw [c_failHereN a, wq_some]
    refine up _ ⟨?_, fpl_r b (fun t j z => by unfold cDf at z; unfold aqD; omega)⟩
    unfold cQr sQ
    rw [if_pos h9]
    exact a
  have good : ∀ q, q ≤ 5 → w = 26 + q → (kdQ T = q ∧ 0 < m ∧ cG T m 6 P true [] 0 1 [] (f_X8_advance s0) ∧ fr (gD 6) s0 (f_X8_advance s0)) := by
    intro q hq hwq
    have hk : kd T 0 = 1 := by
      by_cases c : kd T 0 = 1
      · exact c
      · rw [if_neg c] at hw
        omega
    rw [if_pos hk] at hw
    have hm0 : 0 < m := c_kd hm (by omega)
    obtain ⟨a, b⟩ := c_adv hT hm hm0 hc0
    have e2 : ∀ t j, t ≠ 3 → (f_X8_advance s0).1 t j = s0.1 t j := fun t j h => b.2 t j (fun z => h z.1)
    refine ⟨?_, hm0, ⟨a, by omega, ⟨?_, by decide, fun i c hi => by rw [List.getElem?_nil] at hi; cases hi⟩, Nat.zero_le _, ?_, ?_, fun z => (by cases z)⟩, fr_mo b (fun t j z => ?_)⟩
    · unfold kdQ
      rw [if_pos ⟨hk, by omega, by omega⟩]
      omega
    · rw [e2 6 1 (by decide)]
      exact h61
    · rw [e2 9 4 (by decide)]
      exact h94
    · exact cH_fr hH b.1 (e2 9 3 (by decide))
    · unfold cDa at z
      unfold gD cDf
      omega
  have go33 : ∀ q, q < 3 → w = 26 + q → wq (f_X5_readQuestion_33 (nI w) s0) (fun r => cQr T r ∧ fpl aqD s r.2) := by
    intro q hq hwq
    obtain ⟨h1, h2, h3, h4⟩ := good q (by omega) hwq
    have hrd := rdT_some (T := T) hT.1 (q := true) (nl := []) (w := 0) (k := 1)
    unfold f_X5_readQuestion_33 fhlet f_X5_testN
    (try dsimp only)
    rw [wq_bind, hwq]
    have hg := gA_all (K := 6) (P := P) hT hm rdN 0 0 1 _ hrd 64 0 (f_X8_advance s0) [] (by simp only [glv]; omega) (by omega) h3 (Nat.zero_le _)
    refine wq_mono hg (fun s2 z => ?_)
    have z2 := gP_fr z h4
    exact wq_mono (c_rq86 (w := 0) h1 (by omega) (P := P) (m := m) (s0 := s0) (by rw [if_pos hq]; exact z2) hT.1) up
  have go65 : ∀ q, 3 ≤ q → q ≤ 5 → w = 26 + q → wq (f_X5_readQuestion_65 (nI w) s0) (fun r => cQr T r ∧ fpl aqD s r.2) := by
    intro q hq hq5 hwq
    obtain ⟨h1, h2, h3, h4⟩ := good q (by omega) hwq
    have hrd := rdT_some (T := T) hT.1 (q := true) (nl := []) (w := 3) (k := 1)
    unfold f_X5_readQuestion_65 fhlet f_X5_sumN
    (try dsimp only)
    rw [wq_bind, hwq]
    have hg := gA_all (K := 6) (P := P) hT hm rdN 3 0 1 _ hrd 64 0 (f_X8_advance s0) [] (by simp only [glv]; omega) (by omega) h3 (Nat.zero_le _)
    refine wq_mono hg (fun s2 z => ?_)
    have z2 := gP_fr z h4
    exact wq_mono (c_rq86 (w := 0) h1 (by omega) (P := P) (m := m) (s0 := s0) (by rw [if_neg (by omega)]; exact z2) hT.1) up
  by_cases c0 : w = 26
  · rw [if_pos (show nI w = (26 : Int32) by rw [c0]; rfl)]
    exact go33 0 (by decide) c0
  · rw [if_neg (show ¬ nI w = (26 : Int32) from neI (b := 26) c0 (by omega) (by decide))]
    by_cases c1 : w = 27
    · rw [if_pos (show nI w = (27 : Int32) by rw [c1]; rfl)]
      exact go33 1 (by decide) c1
    · rw [if_neg (show ¬ nI w = (27 : Int32) from neI (b := 27) c1 (by omega) (by decide))]
      by_cases c2 : w = 28
      · rw [if_pos (show nI w = (28 : Int32) by rw [c2]; rfl)]
        exact go33 2 (by decide) c2
      · rw [if_neg (show ¬ nI w = (28 : Int32) from neI (b := 28) c2 (by omega) (by decide))]
        by_cases c3 : w = 29
        · rw [if_pos (show nI w = (29 : Int32) by rw [c3]; rfl)]
          exact go65 3 (by decide) (by decide) c3
        · rw [if_neg (show ¬ nI w = (29 : Int32) from neI (b := 29) c3 (by omega) (by decide))]
          by_cases c4 : w = 30
          · rw [if_pos (show nI w = (30 : Int32) by rw [c4]; rfl)]
            exact go65 4 (by decide) (by decide) c4
          · rw [if_neg (show ¬ nI w = (30 : Int32) from neI (b := 30) c4 (by omega) (by decide))]
            by_cases c5 : w = 31
            · rw [if_pos (show nI w = (31 : Int32) by rw [c5]; rfl)]
              exact go65 5 (by decide) (by decide) c5
            · rw [if_neg (show ¬ nI w = (31 : Int32) from neI (b := 31) c5 (by omega) (by decide))]
              exact bad (by omega)
end
