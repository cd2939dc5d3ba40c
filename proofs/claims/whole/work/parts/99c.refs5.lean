/-! THE REFERENCE READS A TEST, A STATEMENT, A TEXT -/
theorem sOK_mo {T : tT} {p : fhPS} {k k' : Nat} (h : sOK T p k) (h1 : k ≤ k') (h2 : k' ≤ T.2) : sOK T p k' := by
  obtain ⟨o1, o2, o3, o4, o5, o6, o7, o8, o9, o10, o11, o12, o13⟩ := h
  exact ⟨o1, o2, o3, o4, o5, o6, o7, o8, o9, o10, o11, by omega, h2⟩
theorem mTs_fr2 {b n : Nat} {cs : List gC} {σ σ' : fhM} (h : mTs b cs n σ) (h3 : ∀ r, r < cs.length → σ'.1 33 (b + r) = σ.1 33 (b + r)) (h4 : ∀ r, r < cs.length → σ'.1 34 (b + r) = σ.1 34 (b + r)) (h5 : ∀ j, j < n → σ'.1 35 j = σ.1 35 j) : mTs b cs n σ' := by
  intro r c hc
  have hr := (List.getElem?_eq_some_iff.mp hc).1
  obtain ⟨a, g1, g2, g3, g4⟩ := h r c hc
  refine ⟨a, by rw [h3 r hr]; exact g1, by rw [h4 r hr]; exact g2, g3, fun i c' hi => ?_⟩
  have := (List.getElem?_eq_some_iff.mp hi).1
  rw [h5 _ (by omega)]
  exact g4 i c' hi
theorem mTs_add {b n0 : Nat} {cs : List gC} {c : gC} {σ σ' : fhM} (h : mTs b cs n0 σ) (h1 : σ'.1 33 (b + cs.length) = nI n0) (h2 : σ'.1 34 (b + cs.length) = nI (n0 + c.length)) (hc : ∀ i c', c[i]? = some c' → σ'.1 35 (n0 + i) = nI (rEnc c')) (h3 : ∀ r, r < cs.length → σ'.1 33 (b + r) = σ.1 33 (b + r)) (h4 : ∀ r, r < cs.length → σ'.1 34 (b + r) = σ.1 34 (b + r)) (h5 : ∀ j, j < n0 → σ'.1 35 j = σ.1 35 j) : mTs b (cs ++ [c]) (n0 + c.length) σ' := by
  intro r c2 hr
  rcases Nat.lt_or_ge r cs.length with y | y
  · rw [List.getElem?_append_left y] at hr
    exact mTs_mo (mTs_fr2 h h3 h4 h5) (Nat.le_add_right _ _) r c2 hr
  · rw [List.getElem?_append_right y] at hr
    have e : r - cs.length = 0 := by
      cases y5 : r - cs.length with
      | zero => rfl
      | succ n => rw [y5] at hr; cases hr
    rw [e] at hr
    cases hr
    have er : r = cs.length := by omega
    rw [er]
    exact ⟨n0, h1, h2, Nat.le_refl _, hc⟩
section
variable {T : tT}
theorem ms_testG (hT : tOK T) {k : Nat} {p : fhPS} {σ : fhM} (h : mP T k σ) (hk : k ≤ T.2) (hw : mW σ) (hr : mRp p σ) :
    wq (f_X12_qTest (fhI (fhI (fhI (fhI (fhI σ 0 48 (0 : Int32)) 0 99 (0 : Int32)) 0 101 (0 : Int32)) 0 102 (0 : Int32)) 0 103 (0 : Int32))) (fun s => rX T false p.nl 0 [] [] (rdT T false p.nl 0 k) s ∧ mRp p s ∧ mW s ∧ frl sD σ s) := by
  have f0 : frl sD σ (fhI (fhI (fhI (fhI (fhI σ 0 48 (0 : Int32)) 0 99 (0 : Int32)) 0 101 (0 : Int32)) 0 102 (0 : Int32)) 0 103 (0 : Int32)) := by
    refine frl_I (frl_I (frl_I (frl_I (frl_I frl_rf ?_) ?_) ?_) ?_) ?_
    all_goals (unfold sD rD mD; omega)
  have hr0 : mRp p (fhI (fhI (fhI (fhI (fhI σ 0 48 (0 : Int32)) 0 99 (0 : Int32)) 0 101 (0 : Int32)) 0 102 (0 : Int32)) 0 103 (0 : Int32)) := by
    obtain ⟨h1, h2, h3, h4, h5, h6, h7, h8, h9, h10, h11⟩ := hr
    refine ⟨?_, ?_, rN_fr h3 (by simp (disch := omega) only [fhI_e, fhI_o, fhI_s]) rfl, ?_, ?_, ?_, ?_, ?_, mTs_fr h9 (fun j => by simp (disch := omega) only [fhI_e, fhI_o, fhI_s]) (fun j => by simp (disch := omega) only [fhI_e, fhI_o, fhI_s]) (fun j _ => by simp (disch := omega) only [fhI_e, fhI_o, fhI_s]), mTs_fr h10 (fun j => by simp (disch := omega) only [fhI_e, fhI_o, fhI_s]) (fun j => by simp (disch := omega) only [fhI_e, fhI_o, fhI_s]) (fun j _ => by simp (disch := omega) only [fhI_e, fhI_o, fhI_s]), ?_⟩
    · simp (disch := omega) only [fhI_e, fhI_o, fhI_s]; exact h1
    · simp (disch := omega) only [fhI_e, fhI_o, fhI_s]; exact h2
    · simp (disch := omega) only [fhI_e, fhI_o, fhI_s]; exact h4
    · simp (disch := omega) only [fhI_e, fhI_o, fhI_s]; exact h5
    · simp (disch := omega) only [fhI_e, fhI_o, fhI_s]; exact h6
    · intro g x hx; simp (disch := omega) only [fhI_e, fhI_o, fhI_s]; exact h7 g x hx
    · intro x hx; simp (disch := omega) only [fhI_e, fhI_o, fhI_s]; exact h8 x hx
    · simp (disch := omega) only [fhI_e, fhI_o, fhI_s]; exact h11
  have hw0 : mW (fhI (fhI (fhI (fhI (fhI σ 0 48 (0 : Int32)) 0 99 (0 : Int32)) 0 101 (0 : Int32)) 0 102 (0 : Int32)) 0 103 (0 : Int32)) := mW_fr hw (fun v i hv hi => by simp (disch := omega) only [fhI_e, fhI_o, fhI_s])
  have hg : rG T false p.nl 0 k [] [] 0 (fhI (fhI (fhI (fhI (fhI σ 0 48 (0 : Int32)) 0 99 (0 : Int32)) 0 101 (0 : Int32)) 0 102 (0 : Int32)) 0 103 (0 : Int32)) := by
    refine ⟨mP_fr h (fun i _ => by simp (disch := omega) only [fhI_e, fhI_o, fhI_s]) (by simp (disch := omega) only [fhI_e, fhI_o, fhI_s]) (by simp (disch := omega) only [fhI_e, fhI_o, fhI_s]) (by simp (disch := omega) only [fhI_e, fhI_o, fhI_s]) (by simp (disch := omega) only [fhI_e, fhI_o, fhI_s]) (by simp (disch := omega) only [fhI_e, fhI_o, fhI_s]), hk, hw0, ⟨by simp (disch := omega) only [fhI_e, fhI_o, fhI_s]; rfl, fun i c hi => by cases hi⟩, ⟨by simp (disch := omega) only [fhI_e, fhI_o, fhI_s]; rfl, trivial⟩, Nat.zero_le _, by simp (disch := omega) only [fhI_e, fhI_o, fhI_s]; rfl, by simp (disch := omega) only [fhI_e, fhI_o, fhI_s]; rfl, Nat.le_refl _, ?_, fun _ => hr0.2.2.1⟩
    rw [if_neg (show ¬ false = true by decide)]
    simp (disch := omega) only [fhI_e, fhI_o, fhI_s]
  generalize (fhI (fhI (fhI (fhI (fhI σ 0 48 (0 : Int32)) 0 99 (0 : Int32)) 0 101 (0 : Int32)) 0 102 (0 : Int32)) 0 103 (0 : Int32)) = σ0 at *
  refine wq_mono (r_test hT (rdT_some hT.1) hg (Nat.zero_le _)) (fun s z => ?_)
  have fl : frl rD σ0 s := frl_r z.2 (fun _ _ y => y)
  refine ⟨z.1, mRp_fr hr0 fl, mW_fr hw0 (fun v i hv hi => ?_), frl_tr f0 (frl_mo fl (fun _ _ y => Or.inl y))⟩
  have hv2 : v ≠ 76 ∧ v ≠ 77 := by
    refine ⟨?_, ?_⟩ <;> (rintro rfl; exact Nat.not_lt_zero _ hi)
  exact (fl.1 v i (by unfold rD mD; omega)).1
theorem ms_testR (hT : tOK T) {k b : Nat} (hb : b ≤ T.2) {p : fhPS} {σ : fhM} (h : mP T k σ) (hk : k ≤ T.2) (hw : mW σ) (hr : mRp p σ) (ho : sOK T p k) (hn : p.n < 60) :
    wq (f_X12_testTold (2 : Int32) (4 : Int32) (nI b) σ) (fun s => wq (f_X12_statementTold_122 s) (fun s2 => mRes T (gif (p.ru.length = 4) (.inl (5, b)) (sTest T p true k)) s2 ∧ frl sD σ s2)) := by
  have ho' := ho
  obtain ⟨o1, o2, o3, o4, o5, o6, o7, o8, o9, o10, o11, o12, o13⟩ := ho'
  have hT1 := hT.1
  have bad : ∀ e s, tF e s → frl sD σ s → wq (f_X12_statementTold_122 s) (fun s2 => tF e s2 ∧ frl sD σ s2) := fun e s hF hf => wq_mono (ms_semiN hF) (fun s2 z => ⟨z.1, frl_tr hf z.2⟩)
  unfold f_X12_testTold
  rw [wq_bind]
  refine wq_mono (ms_full (kind := 2) (room := 4) (n := p.ru.length) (by decide) h hr.2.2.2.1 o8 (by decide) hb hT) (fun r z => ?_)
  obtain ⟨z1, z2, z3⟩ := z
  by_cases q0 : p.ru.length = 4
  · obtain ⟨a1, a2⟩ := z1 q0
    rw [if_pos a1, wq_some, gif_t q0]
    exact bad _ _ a2 (frl_r z3 (fun _ _ => mD_s))
  rw [z2 q0, if_neg fN1, gif_f q0, wq_bind]
  dsimp only
  have hg := ms_testG hT h hk hw hr
  refine wq_mono hg (fun s y => ?_)
  obtain ⟨y1, y2, y3, y4⟩ := y
  unfold sTest
  have hrd := rdT_some (T := T) hT.1 (q := false) (nl := p.nl) (w := 0) (k := k)
  cases hx : rdT T false p.nl 0 k with
  | inl e =>
    rw [hx] at y1
    have y1 : tF e s := y1
    rw [if_neg (tF_n y1), wq_some]
    exact bad _ _ y1 y4
  | inr x =>
    obtain ⟨j, c⟩ := x
    rw [hx] at y1 hrd
    have y1 : rG T false p.nl 0 j ([] ++ c) [] 0 s := y1
    have hfit : k + 1 ≤ j ∧ k + c.length ≤ j := rd_fit T false p.nl rdN 0 0 k _ hrd
    have hp := y1.1
    have hjT := y1.2.1
    have hS : rS c s := y1.2.2.2.1
    obtain ⟨h1, h2, h3, h4, h5, h6, h7, h8, h9, h10, h11⟩ := y2
    rw [if_pos hp.2.2.1]
    have ht : tot p = (p.ru.map List.length).sum + (p.fa.map List.length).sum := rfl
    have hcp := ms_copy (kind := 2) (base := 0) (n := p.ru.length) (c := c) (n0 := tot p) (s := s) (by decide) (by omega) h4 h11 hS (by omega) (by omega)
    refine wq_mono hcp (fun s2 w => ?_)
    obtain ⟨w1, w2, w3, w4, w5, w6⟩ := w
    have f2 : frl sD σ s2 := frl_tr y4 (frl_r w6 (fun t i z => by unfold sD; omega))
    have e : ∀ t i, ¬ ((t = 35 ∧ tot p ≤ i) ∨ (t = 0 ∧ i = 45) ∨ (t = 33 ∧ i = 0 + p.ru.length) ∨ (t = 34 ∧ i = 0 + p.ru.length) ∨ (t = 29 ∧ i = 2)) → s2.1 t i = s.1 t i := w6.2
    dsimp only
    refine wq_mono (ms_semi (p := (fhPS.wru p (p.ru ++ [c]))) (k := j) hT (mP_fr hp (fun i _ => e _ _ (by omega)) (e _ _ (by omega)) (e _ _ (by omega)) (e _ _ (by omega)) (e _ _ (by omega)) (e _ _ (by omega))) (mW_fr y3 (fun v i hv hi => ?_)) ?_ hn ?_) (fun s5 z => ⟨z.1, frl_tr f2 z.2⟩)
    · have hv2 : v ≠ 29 ∧ v ≠ 33 ∧ v ≠ 34 ∧ v ≠ 35 := by
        refine ⟨?_, ?_, ?_, ?_⟩ <;> (rintro rfl; exact Nat.not_lt_zero _ hi)
      exact e _ _ (by omega)
    · refine ⟨by rw [e _ _ (by omega)]; exact h1, by rw [e _ _ (by omega)]; exact h2, rN_fr h3 (e _ _ (by omega)) w6.1, ?_, ?_, by rw [e _ _ (by omega)]; exact h6, fun g x hx => by rw [e _ _ (by omega)]; exact h7 g x hx, fun a ha => by rw [e _ _ (by omega)]; exact h8 a ha, ?_, ?_, by rw [w4, tot_ru]⟩
      · have hlen : (p.ru ++ [c]).length = p.ru.length + 1 := by rw [List.length_append, List.length_singleton]
        show _ = nI (p.ru ++ [c]).length
        rw [hlen]; exact w3
      · rw [e _ _ (by omega)]; exact h5
      · rw [tot_ru]; exact mTs_add h9 w1 w2 w5 (fun r hr => e _ _ (by omega)) (fun r hr => e _ _ (by omega)) (fun i hi => e _ _ (by omega))
      · rw [tot_ru]; exact mTs_mo (mTs_fr2 h10 (fun r hr => e _ _ (by omega)) (fun r hr => e _ _ (by omega)) (fun i hi => e _ _ (by omega))) (Nat.le_add_right _ _)
    · by_cases q6 : isg T j 59
      · left
        have hk3 := kd_num (isg_k q6)
        refine ⟨by show 1 ≤ p.n + 1; omega, by show p.n + 1 ≤ 60; omega, o3, o4, o5, o6, o7, by show (p.ru ++ [c]).length ≤ 4; rw [List.length_append, List.length_singleton]; omega, o9, o10, ?_, ?_, by omega⟩
        · intro c' hc'
          have hc' : c' ∈ p.ru ++ [c] ∨ c' ∈ p.fa := hc'
          rcases hc' with y | y
          · rcases List.mem_append.mp y with y2 | y2
            · exact o11 c' (Or.inl y2)
            · cases List.mem_singleton.mp y2
              exact ⟨p.nl, k, j, hrd, by rw [nl_len]; exact Nat.le_refl _⟩
          · exact o11 c' (Or.inr y)
        · show ((p.ru ++ [c]).map List.length).sum + (p.fa.map List.length).sum ≤ j + 1
          rw [List.map_append, show [c].map List.length = [c.length] from rfl, sum_app]
          omega
      · exact Or.inr q6
theorem ms_testF (hT : tOK T) {k b : Nat} (hb : b ≤ T.2) {p : fhPS} {σ : fhM} (h : mP T k σ) (hk : k ≤ T.2) (hw : mW σ) (hr : mRp p σ) (ho : sOK T p k) (hn : p.n < 60) :
    wq (f_X12_testTold (3 : Int32) (8 : Int32) (nI b) σ) (fun s => wq (f_X12_statementTold_122 s) (fun s2 => mRes T (gif (p.fa.length = 8) (.inl (5, b)) (sTest T p false k)) s2 ∧ frl sD σ s2)) := by
  have ho' := ho
  obtain ⟨o1, o2, o3, o4, o5, o6, o7, o8, o9, o10, o11, o12, o13⟩ := ho'
  have hT1 := hT.1
  have bad : ∀ e s, tF e s → frl sD σ s → wq (f_X12_statementTold_122 s) (fun s2 => tF e s2 ∧ frl sD σ s2) := fun e s hF hf => wq_mono (ms_semiN hF) (fun s2 z => ⟨z.1, frl_tr hf z.2⟩)
  unfold f_X12_testTold
  rw [wq_bind]
  refine wq_mono (ms_full (kind := 3) (room := 8) (n := p.fa.length) (by decide) h hr.2.2.2.2.1 o9 (by decide) hb hT) (fun r z => ?_)
  obtain ⟨z1, z2, z3⟩ := z
  by_cases q0 : p.fa.length = 8
  · obtain ⟨a1, a2⟩ := z1 q0
    rw [if_pos a1, wq_some, gif_t q0]
    exact bad _ _ a2 (frl_r z3 (fun _ _ => mD_s))
  rw [z2 q0, if_neg fN1, gif_f q0, wq_bind]
  dsimp only
  have hg := ms_testG hT h hk hw hr
  refine wq_mono hg (fun s y => ?_)
  obtain ⟨y1, y2, y3, y4⟩ := y
  unfold sTest
  have hrd := rdT_some (T := T) hT.1 (q := false) (nl := p.nl) (w := 0) (k := k)
  cases hx : rdT T false p.nl 0 k with
  | inl e =>
    rw [hx] at y1
    have y1 : tF e s := y1
    rw [if_neg (tF_n y1), wq_some]
    exact bad _ _ y1 y4
  | inr x =>
    obtain ⟨j, c⟩ := x
    rw [hx] at y1 hrd
    have y1 : rG T false p.nl 0 j ([] ++ c) [] 0 s := y1
    have hfit : k + 1 ≤ j ∧ k + c.length ≤ j := rd_fit T false p.nl rdN 0 0 k _ hrd
    have hp := y1.1
    have hjT := y1.2.1
    have hS : rS c s := y1.2.2.2.1
    obtain ⟨h1, h2, h3, h4, h5, h6, h7, h8, h9, h10, h11⟩ := y2
    rw [if_pos hp.2.2.1]
    have ht : tot p = (p.ru.map List.length).sum + (p.fa.map List.length).sum := rfl
    have hcp := ms_copy (kind := 3) (base := 4) (n := p.fa.length) (c := c) (n0 := tot p) (s := s) (by decide) (by omega) h5 h11 hS (by omega) (by omega)
    refine wq_mono hcp (fun s2 w => ?_)
    obtain ⟨w1, w2, w3, w4, w5, w6⟩ := w
    have f2 : frl sD σ s2 := frl_tr y4 (frl_r w6 (fun t i z => by unfold sD; omega))
    have e : ∀ t i, ¬ ((t = 35 ∧ tot p ≤ i) ∨ (t = 0 ∧ i = 45) ∨ (t = 33 ∧ i = 4 + p.fa.length) ∨ (t = 34 ∧ i = 4 + p.fa.length) ∨ (t = 29 ∧ i = 3)) → s2.1 t i = s.1 t i := w6.2
    dsimp only
    refine wq_mono (ms_semi (p := (fhPS.wfa p (p.fa ++ [c]))) (k := j) hT (mP_fr hp (fun i _ => e _ _ (by omega)) (e _ _ (by omega)) (e _ _ (by omega)) (e _ _ (by omega)) (e _ _ (by omega)) (e _ _ (by omega))) (mW_fr y3 (fun v i hv hi => ?_)) ?_ hn ?_) (fun s5 z => ⟨z.1, frl_tr f2 z.2⟩)
    · have hv2 : v ≠ 29 ∧ v ≠ 33 ∧ v ≠ 34 ∧ v ≠ 35 := by
        refine ⟨?_, ?_, ?_, ?_⟩ <;> (rintro rfl; exact Nat.not_lt_zero _ hi)
      exact e _ _ (by omega)
    · refine ⟨by rw [e _ _ (by omega)]; exact h1, by rw [e _ _ (by omega)]; exact h2, rN_fr h3 (e _ _ (by omega)) w6.1, ?_, ?_, by rw [e _ _ (by omega)]; exact h6, fun g x hx => by rw [e _ _ (by omega)]; exact h7 g x hx, fun a ha => by rw [e _ _ (by omega)]; exact h8 a ha, ?_, ?_, by rw [w4, tot_fa]⟩
      · rw [e _ _ (by omega)]; exact h4
      · have hlen : (p.fa ++ [c]).length = p.fa.length + 1 := by rw [List.length_append, List.length_singleton]
        show _ = nI (p.fa ++ [c]).length
        rw [hlen]; exact w3
      · rw [tot_fa]; exact mTs_mo (mTs_fr2 h9 (fun r hr => e _ _ (by have hr : r < p.ru.length := hr; omega)) (fun r hr => e _ _ (by have hr : r < p.ru.length := hr; omega)) (fun i hi => e _ _ (by omega))) (Nat.le_add_right _ _)
      · rw [tot_fa]; exact mTs_add h10 w1 w2 w5 (fun r hr => e _ _ (by omega)) (fun r hr => e _ _ (by omega)) (fun i hi => e _ _ (by omega))
    · by_cases q6 : isg T j 59
      · left
        have hk3 := kd_num (isg_k q6)
        refine ⟨by show 1 ≤ p.n + 1; omega, by show p.n + 1 ≤ 60; omega, o3, o4, o5, o6, o7, o8, by show (p.fa ++ [c]).length ≤ 8; rw [List.length_append, List.length_singleton]; omega, o10, ?_, ?_, by omega⟩
        · intro c' hc'
          have hc' : c' ∈ p.ru ∨ c' ∈ p.fa ++ [c] := hc'
          rcases hc' with y | y
          · exact o11 c' (Or.inl y)
          · rcases List.mem_append.mp y with y2 | y2
            · exact o11 c' (Or.inr y2)
            · cases List.mem_singleton.mp y2
              exact ⟨p.nl, k, j, hrd, by rw [nl_len]; exact Nat.le_refl _⟩
        · show (p.ru.map List.length).sum + ((p.fa ++ [c]).map List.length).sum ≤ j + 1
          rw [List.map_append, show [c].map List.length = [c.length] from rfl, sum_app]
          omega
      · exact Or.inr q6
end
section
variable {T : tT}
/-- a statement behind the first -/
theorem ms_stm (hT : tOK T) {k : Nat} {p : fhPS} {σ : fhM} (h : mSt T p k σ) (ha : σ.1 0 2 = nI (fm T k)) : wq (f_X12_statementTold σ) (fun s2 => mRes T (stm T p k) s2 ∧ frl sD σ s2) := by
  obtain ⟨hp, hk, hw, ho, hr⟩ := h
  have ho' := ho
  obtain ⟨o1, o2, o3, o4, o5, o6, o7, o8, o9, o10, o11, o12, o13⟩ := ho'
  have hfm := fm_le T k
  unfold f_X12_statementTold
  rw [hr.1, ha]
  unfold stm
  by_cases q0 : p.n = 60
  · rw [if_pos (show nI p.n = (60 : Int32) by rw [q0]; rfl), wq_let, wq_some, gif_t q0]
    obtain ⟨c, f⟩ := m_fail (q := (5, fm T k)) hp.2.2.1
    exact ⟨⟨c, Nat.le_of_ble_eq_true rfl, Nat.le_of_ble_eq_true rfl⟩, frl_r f (fun _ _ => mD_s)⟩
  rw [if_neg (show ¬ nI p.n = (60 : Int32) from nIn q0 (b := 60) (by omega) (by decide)), gif_f q0, wq_bind]
  have hn : p.n < 60 := by omega
  refine wq_mono (r_ta4 hT hp hw) (fun r z => ?_)
  obtain ⟨z1, z2, z3, z4⟩ := z
  obtain ⟨r1, s1⟩ := r
  dsimp only at z1 z2 z3 z4 ⊢
  have f1 : frl sD σ s1 := frl_r z4 (fun _ _ => mD_s)
  have hr1 := mRp_m hr z4
  have hw1 := mW_m hw z4
  by_cases q1 : isw T k 1
  · have hkT := kd_num (isw_k q1)
    rw [if_pos (z1.mpr q1), gif_t q1, wq_bind]
    exact wq_mono (ms_guest hT hfm (z2 q1) (by omega) hw1 hr1 (sOK_mo ho (by omega) (by omega)) hn) (fun s y => wq_mono y (fun s2 y2 => ⟨y2.1, frl_tr f1 y2.2⟩))
  rw [if_neg (fun y => q1 (z1.mp y)), gif_f q1, wq_bind]
  refine wq_mono (r_ta6 hT (z3 q1).1 hw1) (fun r z => ?_)
  clear z1 z2 z3 z4
  obtain ⟨z1, z2, z3, z4⟩ := z
  obtain ⟨r2, s2⟩ := r
  dsimp only at z1 z2 z3 z4 ⊢
  have f2 : frl sD σ s2 := frl_tr f1 (frl_r z4 (fun _ _ => mD_s))
  have hr2 := mRp_m hr1 z4
  have hw2 := mW_m hw1 z4
  by_cases q3 : isw T k 3
  · have hkT := kd_num (isw_k q3)
    rw [if_pos (z1.mpr q3), gif_t q3, wq_bind]
    exact wq_mono (ms_blind hT (z2 q3) (by omega) hw2 hr2 (sOK_mo ho (by omega) (by omega)) hn) (fun s y => wq_mono y (fun s2 y2 => ⟨y2.1, frl_tr f2 y2.2⟩))
  rw [if_neg (fun y => q3 (z1.mp y)), gif_f q3, wq_bind]
  refine wq_mono (r_ta8 hT (z3 q3).1 hw2) (fun r z => ?_)
  clear z1 z2 z3 z4
  obtain ⟨z1, z2, z3, z4⟩ := z
  obtain ⟨r3, s3⟩ := r
  dsimp only at z1 z2 z3 z4 ⊢
  have f3 : frl sD σ s3 := frl_tr f2 (frl_r z4 (fun _ _ => mD_s))
  have hr3 := mRp_m hr2 z4
  have hw3 := mW_m hw2 z4
  by_cases q5 : isw T k 5
  · have hkT := kd_num (isw_k q5)
    rw [if_pos (z1.mpr q5), gif_t q5, wq_bind]
    exact wq_mono (ms_testR hT hfm (z2 q5) (by omega) hw3 hr3 (sOK_mo ho (by omega) (by omega)) hn) (fun s y => wq_mono y (fun s2 y2 => ⟨y2.1, frl_tr f3 y2.2⟩))
  rw [if_neg (fun y => q5 (z1.mp y)), gif_f q5, wq_bind]
  refine wq_mono (r_ta9 hT (z3 q5).1 hw3) (fun r z => ?_)
  clear z1 z2 z3 z4
  obtain ⟨z1, z2, z3, z4⟩ := z
  obtain ⟨r4, s4⟩ := r
  dsimp only at z1 z2 z3 z4 ⊢
  have f4 : frl sD σ s4 := frl_tr f3 (frl_r z4 (fun _ _ => mD_s))
  have hr4 := mRp_m hr3 z4
  have hw4 := mW_m hw3 z4
  by_cases q6 : isw T k 6
  · have hkT := kd_num (isw_k q6)
    rw [if_pos (z1.mpr q6), gif_t q6, wq_bind]
    exact wq_mono (ms_testF hT hfm (z2 q6) (by omega) hw4 hr4 (sOK_mo ho (by omega) (by omega)) hn) (fun s y => wq_mono y (fun s2 y2 => ⟨y2.1, frl_tr f4 y2.2⟩))
  rw [if_neg (fun y => q6 (z1.mp y)), gif_f q6, wq_bind]
  refine wq_mono (r_as10 hT (z3 q6).1 hw4) (fun s5 z => ?_)
  clear z1 z2 z3 z4
  obtain ⟨z1, z2, z4⟩ := z
  have f5 : frl sD σ s5 := frl_tr f4 (frl_r z4 (fun _ _ => mD_s))
  have hr5 := mRp_m hr4 z4
  have hw5 := mW_m hw4 z4
  rw [wq_bind]
  by_cases q7 : isw T k 7
  · have hkT := kd_num (isw_k q7)
    rw [gif_t q7]
    exact wq_mono (ms_slip hT (z1 q7) (by omega) hw5 hr5 (sOK_mo ho (by omega) (by omega)) hn) (fun s y => wq_mono y (fun s2 y2 => ⟨y2.1, frl_tr f5 y2.2⟩))
  · have hF : tF (1, fm T k) s5 := mF_tF (z2 q7) ⟨Nat.le_refl _, Nat.le_of_ble_eq_true rfl⟩
    rw [gif_f q7, m_numberN (tF_n hF), wq_some]
    have hF2 : tF (1, fm T k) (fhI s5 29 4 (0 : Int32)) := by
      obtain ⟨⟨a, b⟩, c, d⟩ := hF
      refine ⟨⟨?_, ?_⟩, c, d⟩
      · simp (disch := omega) only [fhI_e, fhI_o, fhI_s]; exact a
      · simp (disch := omega) only [fhI_e, fhI_o, fhI_s]; exact b
    exact wq_mono (ms_semiN hF2) (fun s2 z => ⟨z.1, frl_tr (frl_I f5 (by unfold sD; omega)) z.2⟩)
/-- the first statement -/
theorem ms_stm0 (hT : tOK T) {k : Nat} {σ : fhM} (h : mP T k σ) (hk : k ≤ T.2) (hw : mW σ) (hr : rN [] σ ∧ σ.1 29 2 = 0 ∧ σ.1 29 3 = 0 ∧ σ.1 29 4 = 0 ∧ (∀ a, a < 5 → σ.1 32 a = nI (smk a 0)) ∧ σ.1 0 45 = 0) : wq (f_X12_marksTold σ) (fun s => mRes T (stm0 T ps0 k) (fhI s 0 46 (1 : Int32)) ∧ frl sD σ (fhI s 0 46 (1 : Int32))) := by
  have h46 : sD 0 46 := by unfold sD; omega
  have bad : ∀ e s, tF e s → frl sD σ s → tF e (fhI s 0 46 (1 : Int32)) ∧ frl sD σ (fhI s 0 46 (1 : Int32)) := by
    intro e s hF hf
    obtain ⟨⟨a, b⟩, c, d⟩ := hF
    refine ⟨⟨⟨?_, ?_⟩, c, d⟩, frl_I hf h46⟩
    · simp (disch := omega) only [fhI_e, fhI_o, fhI_s]; exact a
    · simp (disch := omega) only [fhI_e, fhI_o, fhI_s]; exact b
  unfold f_X12_marksTold stm0
  rw [wq_bind]
  refine wq_mono (r_as3 hT h hw) (fun s1 z => ?_)
  obtain ⟨z1, z2, z4⟩ := z
  have f1 : frl sD σ s1 := frl_r z4 (fun _ _ => mD_s)
  obtain ⟨h3, h4, h5, h6, h8, h11⟩ := hr
  have hw1 := mW_m hw z4
  rw [wq_bind]
  have fN : ∀ e s, tF e s → tF e (fhI s 29 0 (0 : Int32)) := by
    intro e s hF
    obtain ⟨⟨a, b⟩, c, d⟩ := hF
    refine ⟨⟨?_, ?_⟩, c, d⟩
    · simp (disch := omega) only [fhI_e, fhI_o, fhI_s]; exact a
    · simp (disch := omega) only [fhI_e, fhI_o, fhI_s]; exact b
  by_cases q0 : isw T k 0
  · have hkT := kd_num (isw_k q0)
    rw [gif_t q0]
    have hnum := m_number (lo := 2) (hi := 4) hT (by decide) (by decide) (z1 q0)
    refine wq_mono hnum (fun r w => ?_)
    obtain ⟨x, s⟩ := r
    obtain ⟨w1, w2, w3⟩ := w
    dsimp only at w1 w2 w3 ⊢
    have f2 : frl sD σ s := frl_tr f1 (frl_r w3 (fun _ _ => mD_s))
    have f3 : frl sD σ (fhI s 29 0 x) := frl_I f2 (by unfold sD; omega)
    have hw2 := mW_m hw1 w3
    by_cases q : (nF T (k + 1) 2 4).1 = 0
    · obtain ⟨hp, hx⟩ := w1 q
      obtain ⟨y1, y2, y3, y4⟩ := nF_0 q
      have hkT2 := kd_num (show kd T (k + 1) ≠ 0 by omega)
      rw [gif_t q, wq_bind, hx]
      rw [hx] at f3
      have hp2 : mP T (k + 2) (fhI s 29 0 (nI (nv T (k + 1)))) := mP_fr hp (fun i _ => by simp (disch := omega) only [fhI_e, fhI_o, fhI_s]) (by simp (disch := omega) only [fhI_e, fhI_o, fhI_s]) (by simp (disch := omega) only [fhI_e, fhI_o, fhI_s]) (by simp (disch := omega) only [fhI_e, fhI_o, fhI_s]) (by simp (disch := omega) only [fhI_e, fhI_o, fhI_s]) (by simp (disch := omega) only [fhI_e, fhI_o, fhI_s])
      have hw3 : mW (fhI s 29 0 (nI (nv T (k + 1)))) := mW_fr hw2 (fun v i hv hi => by
        have hv2 : v ≠ 29 := by rintro rfl; exact Nat.not_lt_zero _ hi
        simp (disch := omega) only [fhI_e, fhI_o, fhI_s])
      refine wq_mono (m_asksSign (c := 59) hT rfl (by decide) hp2) (fun s4 v => ?_)
      obtain ⟨v1, v2, v3⟩ := v
      have f4 : frl sD σ s4 := frl_tr f3 (frl_r v3 (fun _ _ => mD_s))
      rw [wq_some]
      unfold semi
      by_cases q6 : isg T (k + 2) 59
      · have hkT3 := kd_num (isg_k q6)
        rw [gif_t q6]
        have e : ∀ t i, ¬ mD t i → s4.1 t i = (fhI s 29 0 (nI (nv T (k + 1)))).1 t i := v3.2
        have e2 : ∀ t i, ¬ mD t i → ¬ (t = 29 ∧ i = 0) → s4.1 t i = σ.1 t i := fun t i hd h2 => by rw [e t i hd, fhI_r, if_neg h2, w3.2 t i hd, z4.2 t i hd]
        have e3 : s4.2 = σ.2 := by rw [v3.1, fhI_2, w3.1, z4.1]
        refine ⟨⟨mP_fr (v1 q6) (fun i _ => by simp (disch := omega) only [fhI_e, fhI_o, fhI_s]) (by simp (disch := omega) only [fhI_e, fhI_o, fhI_s]) (by simp (disch := omega) only [fhI_e, fhI_o, fhI_s]) (by simp (disch := omega) only [fhI_e, fhI_o, fhI_s]) (by simp (disch := omega) only [fhI_e, fhI_o, fhI_s]) (by simp (disch := omega) only [fhI_e, fhI_o, fhI_s]), by omega, mW_fr (mW_m hw3 v3) (fun v i hv hi => by simp (disch := omega) only [fhI_e, fhI_o, fhI_s]), ?_, ?_⟩, frl_I f4 h46⟩
        · refine ⟨Nat.le_refl _, Nat.le_of_ble_eq_true rfl, y3, y4, Nat.zero_le _, ?_, fun a => by show 0 < 32; decide, Nat.zero_le _, Nat.zero_le _, Nat.zero_le _, ?_, Nat.zero_le _, by show k + 2 + 1 ≤ T.2; omega⟩
          · intro x hx
            have hx : x ∈ ([] : List (List Nat × Nat)) := hx
            cases hx
          · intro c hc
            have hc : c ∈ ([] : List gC) ∨ c ∈ ([] : List gC) := hc
            rcases hc with z | z <;> cases z
        · have n0 : ∀ (r : Nat) (c : gC), ([] : List gC)[r]? ≠ some c := by intro r c z; cases z
          refine ⟨by simp (disch := omega) only [fhI_e, fhI_o, fhI_s]; rfl, ?_, rN_fr h3 ?_ ?_, ?_, ?_, ?_, ?_, fun a ha => ?_, fun r c hc => absurd hc (n0 r c), fun r c hc => absurd hc (n0 r c), ?_⟩
          · rw [fhI_o (by decide), e _ _ (by unfold mD; omega), fhI_e]
          · rw [fhI_o (by decide)]; exact e2 _ _ (by unfold mD; omega) (by omega)
          · rw [fhI_2]; exact e3
          · rw [fhI_o (by decide), e2 _ _ (by unfold mD; omega) (by omega)]; exact h4
          · rw [fhI_o (by decide), e2 _ _ (by unfold mD; omega) (by omega)]; exact h5
          · rw [fhI_o (by decide), e2 _ _ (by unfold mD; omega) (by omega)]; exact h6
          · intro g x hx
            have hx : ([] : List (List Nat × Nat))[g]? = some x := hx
            cases hx
          · rw [fhI_o (by decide), e2 _ _ (by unfold mD; omega) (by omega)]; exact h8 a ha
          · rw [fhI_s (by decide), e2 _ _ (by unfold mD; omega) (by omega)]; exact h11
      · rw [gif_f q6]
        exact bad _ _ (mF_tF (v2 q6) ⟨Nat.le_refl _, Nat.le_of_ble_eq_true rfl⟩) f4
    · have hF := mF_tF (w2 q) (nF_b q)
      have hF2 : tF (nF T (k + 1) 2 4) (fhI s 29 0 x) := by
        obtain ⟨⟨a, b⟩, c, d⟩ := hF
        refine ⟨⟨?_, ?_⟩, c, d⟩
        · simp (disch := omega) only [fhI_e, fhI_o, fhI_s]; exact a
        · simp (disch := omega) only [fhI_e, fhI_o, fhI_s]; exact b
      rw [gif_f q, wq_bind, m_asksSignN (tF_n hF2), wq_some, wq_some]
      exact bad _ _ hF2 f3
  · have hF : tF (1, fm T k) s1 := mF_tF (z2 q0) ⟨Nat.le_refl _, Nat.le_of_ble_eq_true rfl⟩
    rw [gif_f q0, m_numberN (tF_n hF), wq_some, wq_bind, m_asksSignN (tF_n (fN _ _ hF)), wq_some, wq_some]
    exact bad _ _ (fN _ _ hF) (frl_I f1 (by unfold sD; omega))
def mResA (T : tT) (r : (Nat × Nat) ⊕ fhPS) (s : fhM) : Prop := match r with
  | .inl e => tF e s
  | .inr p => ∃ k, mSt T p k s ∧ kd T k = 0
/-- the loop from a state on -/
theorem ms_loop (hT : tOK T) {Q : Int32 × fhM → Prop} : ∀ (f k : Nat) (p : fhPS) (σ : fhM), mSt T p k σ → p.n + f = 61 → (∀ s, mResA T (sAll T f p k) s → frl sD σ s → wq (f_X12_parlour_116 s) Q) → wq (fhlp (fun x => f_X12_parlour_94 x) σ) Q := by
  intro f
  induction f with
  | zero =>
    intro k p σ h hf _
    have := h.2.2.2.1.2.1
    omega
  | succ f ih =>
    intro k p σ h hf hQ
    obtain ⟨hp, hk, hw, ho, hr⟩ := h
    refine wq_step ?_
    (try dsimp only)
    unfold f_X12_parlour_94
    rw [if_pos hp.2.2.1, wq_bind]
    refine wq_mono (m_look hT hp) (fun r z => ?_)
    obtain ⟨z1, z2, z3⟩ := z
    have h2 : mSt T p k r.2 := ⟨z2.1, hk, mW_m hw z3, ho, mRp_m hr z3⟩
    have f2 : frl sD σ r.2 := frl_r z3 (fun _ _ => mD_s)
    unfold sAll at hQ
    by_cases q : kd T k = 0
    · rw [gif_t q] at hQ
      rw [if_pos (by rw [z1]; unfold mc; rw [if_pos q]), wq_map]
      exact wq_mono (hQ r.2 ⟨k, h2, q⟩ f2) (fun s z => z)
    · rw [gif_f q] at hQ
      rw [if_neg (by rw [z1]; unfold mc; rw [if_neg q]; exact ph_m1n (by have := hT.2 (fm T k); omega)), wq_bind]
      refine wq_mono (ms_stm hT h2 z2.2) (fun s y => ?_)
      rw [wq_some, fhK_l]
      obtain ⟨y1, y2⟩ := y
      cases hx : stm T p k with
      | inl e =>
        rw [hx] at hQ y1
        have y1 : tF e s := y1
        refine wq_step ?_
        (try dsimp only)
        (try unfold f_X12_parlour_94)
        rw [if_neg (tF_n y1), wq_map]
        exact wq_mono (hQ s y1 (frl_tr f2 y2)) (fun s z => z)
      | inr x =>
        rw [hx] at hQ y1
        have y1 : mSt T x.2 x.1 s := y1
        have hn : x.2.n = p.n + 1 := stm_n hx
        exact ih x.1 x.2 s y1 (by omega) (fun s2 h3 f3 => hQ s2 h3 (frl_tr (frl_tr f2 y2) f3))
end
