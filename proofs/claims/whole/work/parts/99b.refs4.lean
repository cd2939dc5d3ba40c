/-! THE REFERENCE READS A TEST -/
section
variable {T : tT}
theorem ms_slip (hT : tOK T) {k : Nat} {p : fhPS} {σ : fhM} (h : mP T k σ) (hk : k ≤ T.2) (hw : mW σ) (hr : mRp p σ) (ho : sOK T p k) (hn : p.n < 60) :
    wq (f_X12_number (0 : Int32) (100 : Int32) σ) (fun r => wq (f_X12_statementTold_122 (fhI r.2 29 4 r.1)) (fun s2 => mRes T (sSlip T p k) s2 ∧ frl sD σ s2)) := by
  obtain ⟨o1, o2, o3, o4, o5, o6, o7, o8, o9, o10, o11, o12, o13⟩ := ho
  have hnum := m_number (lo := 0) (hi := 100) hT (by decide) (by decide) h
  refine wq_mono hnum (fun r w => ?_)
  obtain ⟨x, s⟩ := r
  obtain ⟨w1, w2, w3⟩ := w
  dsimp only at w1 w2 w3 ⊢
  have f1 : frl sD σ s := frl_r w3 (fun _ _ => mD_s)
  have f2 : frl sD σ (fhI s 29 4 x) := frl_I f1 (by unfold sD; omega)
  unfold sSlip
  by_cases q : (nF T k 0 100).1 = 0
  · obtain ⟨hp, hx⟩ := w1 q
    obtain ⟨z1, z2, z3, z4⟩ := nF_0 q
    have hkT := kd_num (show kd T k ≠ 0 by omega)
    rw [gif_t q, hx]
    rw [hx] at f2
    obtain ⟨h1, h2, h3, h4, h5, h6, h7, h8, h9, h10, h11⟩ := mRp_m hr w3
    refine wq_mono (ms_semi (p := (fhPS.wsl p (nv T k))) (k := k + 1) hT (mP_fr hp (fun i _ => ?_) ?_ ?_ ?_ ?_ ?_) (mW_fr (mW_m hw w3) (fun v i hv hi => ?_)) ?_ hn ?_) (fun s5 z => ⟨z.1, frl_tr f2 z.2⟩)
    · simp (disch := omega) only [fhI_e, fhI_o, fhI_s]
    · simp (disch := omega) only [fhI_e, fhI_o, fhI_s]
    · simp (disch := omega) only [fhI_e, fhI_o, fhI_s]
    · simp (disch := omega) only [fhI_e, fhI_o, fhI_s]
    · simp (disch := omega) only [fhI_e, fhI_o, fhI_s]
    · simp (disch := omega) only [fhI_e, fhI_o, fhI_s]
    · have hv2 : v ≠ 29 := by rintro rfl; exact Nat.not_lt_zero _ hi
      simp (disch := omega) only [fhI_e, fhI_o, fhI_s]
    · refine ⟨?_, ?_, rN_fr h3 (by simp (disch := omega) only [fhI_e, fhI_o, fhI_s]) rfl, ?_, ?_, ?_, ?_, ?_, mTs_fr h9 (fun j => by simp (disch := omega) only [fhI_e, fhI_o, fhI_s]) (fun j => by simp (disch := omega) only [fhI_e, fhI_o, fhI_s]) (fun j _ => by simp (disch := omega) only [fhI_e, fhI_o, fhI_s]), mTs_fr h10 (fun j => by simp (disch := omega) only [fhI_e, fhI_o, fhI_s]) (fun j => by simp (disch := omega) only [fhI_e, fhI_o, fhI_s]) (fun j _ => by simp (disch := omega) only [fhI_e, fhI_o, fhI_s]), ?_⟩
      · simp (disch := omega) only [fhI_e, fhI_o, fhI_s]; exact h1
      · simp (disch := omega) only [fhI_e, fhI_o, fhI_s]; exact h2
      · simp (disch := omega) only [fhI_e, fhI_o, fhI_s]; exact h4
      · simp (disch := omega) only [fhI_e, fhI_o, fhI_s]; exact h5
      · simp (disch := omega) only [fhI_e, fhI_o, fhI_s]
      · intro g x hx; simp (disch := omega) only [fhI_e, fhI_o, fhI_s]; exact h7 g x hx
      · intro x hx; simp (disch := omega) only [fhI_e, fhI_o, fhI_s]; exact h8 x hx
      · simp (disch := omega) only [fhI_e, fhI_o, fhI_s]; exact h11
    · by_cases q6 : isg T (k + 1) 59
      · left
        have hk3 := kd_num (isg_k q6)
        exact ⟨by show 1 ≤ p.n + 1; omega, by show p.n + 1 ≤ 60; omega, o3, o4, o5, o6, o7, o8, o9, z4, o11, by show (p.ru.map List.length).sum + (p.fa.map List.length).sum ≤ k + 1 + 1; omega, by omega⟩
      · exact Or.inr q6
  · have hF := mF_tF (w2 q) (nF_b q)
    rw [gif_f q]
    have hF2 : tF (nF T k 0 100) (fhI s 29 4 x) := by
      obtain ⟨⟨a, b⟩, c, d⟩ := hF
      refine ⟨⟨?_, ?_⟩, c, d⟩
      · simp (disch := omega) only [fhI_e, fhI_o, fhI_s]; exact a
      · simp (disch := omega) only [fhI_e, fhI_o, fhI_s]; exact b
    exact wq_mono (ms_semiN hF2) (fun s2 z => ⟨z.1, frl_tr f2 z.2⟩)
end
theorem tot_ru (p : fhPS) (c : gC) : tot (fhPS.wru p (p.ru ++ [c])) = tot p + c.length := by
  show ((p.ru ++ [c]).map List.length).sum + (p.fa.map List.length).sum = (p.ru.map List.length).sum + (p.fa.map List.length).sum + c.length
  rw [List.map_append, show [c].map List.length = [c.length] from rfl, sum_app]
  omega
theorem tot_fa (p : fhPS) (c : gC) : tot (fhPS.wfa p (p.fa ++ [c])) = tot p + c.length := by
  show (p.ru.map List.length).sum + ((p.fa ++ [c]).map List.length).sum = (p.ru.map List.length).sum + (p.fa.map List.length).sum + c.length
  rw [List.map_append, show [c].map List.length = [c.length] from rfl, sum_app]
  omega
theorem mTs_mo {b n n' : Nat} {cs : List gC} {σ : fhM} (h : mTs b cs n σ) (hn : n ≤ n') : mTs b cs n' σ := by
  intro r c hc
  obtain ⟨a, g1, g2, g3, g4⟩ := h r c hc
  exact ⟨a, g1, g2, by omega, g4⟩
/-- a test's codes stored -/
theorem ms_copy {kind base n : Nat} {c : gC} {n0 : Nat} {s : fhM} (hk : kind < 5) (hb : base + n < 12) (h1 : s.1 29 kind = nI n) (h45 : s.1 0 45 = nI n0) (hS : rS c s) (hc : c.length ≤ 1600) (hn : n0 + c.length ≤ 1600) :
    wq (f_X12_testTold_58 (nI kind) (nI base) s) (fun s2 => s2.1 33 (base + n) = nI n0 ∧ s2.1 34 (base + n) = nI (n0 + c.length) ∧ s2.1 29 kind = nI (n + 1) ∧ s2.1 0 45 = nI (n0 + c.length) ∧ (∀ i c', c[i]? = some c' → s2.1 35 (n0 + i) = nI (rEnc c')) ∧ fr (fun t j => (t = 35 ∧ n0 ≤ j) ∨ (t = 0 ∧ j = 45) ∨ (t = 33 ∧ j = base + n) ∨ (t = 34 ∧ j = base + n) ∨ (t = 29 ∧ j = kind)) s s2) := by
  unfold f_X12_testTold_58
  rw [ph_ix (k := kind) (by omega), h1, nI_add, ph_in (k := kind) (by omega), ph_in (k := base + n) (by omega), decide_eq_true (show kind < 10 by omega), decide_eq_true hb, if_pos (show (true && (true && true)) = true from rfl), ph_ix (k := base + n) (by omega), h45]
  have f0 : fr (fun t j => (t = 35 ∧ n0 ≤ j) ∨ (t = 0 ∧ j = 45) ∨ (t = 33 ∧ j = base + n)) s (fhI s 33 (base + n) (nI n0)) := fr_I fr_rf (by omega)
  refine wq_for (R := fun i x => x.1 = nI i ∧ x.2.1 0 45 = nI (n0 + i) ∧ (∀ i', i' < i → x.2.1 35 (n0 + i') = s.1 76 i') ∧ x.2.1 33 (base + n) = nI n0 ∧ fr (fun t j => (t = 35 ∧ n0 ≤ j) ∨ (t = 0 ∧ j = 45) ∨ (t = 33 ∧ j = base + n)) s x.2) 0 c.length (Nat.zero_le _) ?_ ?_ ⟨rfl, by simp (disch := omega) only [fhI_e, fhI_o, fhI_s]; exact h45, fun i hi => by omega, by simp (disch := omega) only [fhI_e, fhI_o, fhI_s], f0⟩
  · rintro i ⟨x, s2⟩ - hi ⟨rfl, g1, g2, g3, g4⟩
    dsimp only at g1 g2 g3 g4
    (try dsimp only)
    unfold f_X12_testTold_81
    have e99 : s2.1 0 99 = nI c.length := by rw [g4.2 0 99 (by omega)]; exact hS.1
    rw [e99, if_neg (nI_ge hi (by omega)), g1, ph_in (k := i) (by omega), ph_in (k := n0 + i) (by omega), decide_eq_true (show i < 1700 by omega), decide_eq_true (show n0 + i < 1600 by omega), if_pos (show (true && (true && true)) = true from rfl), ph_ix (k := n0 + i) (by omega), ph_ix (k := i) (by omega), nI_1, wq_some, fhK_l]
    have e76 : s2.1 76 i = s.1 76 i := g4.2 76 i (by omega)
    refine ⟨rfl, ?_, fun i' hi' => ?_, ?_, fr_I (fr_I g4 (by omega)) (by omega)⟩
    · simp (disch := omega) only [fhI_e, fhI_o, fhI_s]; rw [nI_1, Nat.add_assoc]
    · rcases Nat.lt_succ_iff_lt_or_eq.mp hi' with y | y
      · simp (disch := omega) only [fhI_e, fhI_o, fhI_s]; exact g2 i' y
      · rw [y, fhI_o (by omega), fhI_e]; exact e76
    · simp (disch := omega) only [fhI_e, fhI_o, fhI_s]; exact g3
  · rintro ⟨x, s2⟩ ⟨rfl, g1, g2, g3, g4⟩
    dsimp only at g1 g2 g3 g4
    (try dsimp only)
    unfold f_X12_testTold_81
    have e99 : s2.1 0 99 = nI c.length := by rw [g4.2 0 99 (by omega)]; exact hS.1
    rw [e99, if_pos (nI_le (Nat.le_refl _) (by omega)), ph_in (k := kind) (by omega), ph_in (k := base + n) (by omega), decide_eq_true (show kind < 10 by omega), decide_eq_true hb, if_pos (show (true && (true && (true && true))) = true from rfl), ph_ix (k := base + n) (by omega), ph_ix (k := kind) (by omega), g1, wq_some, fhK_r]
    have e29 : s2.1 29 kind = nI n := by rw [g4.2 29 kind (by omega)]; exact h1
    rw [e29, nI_1]
    refine ⟨?_, ?_, by rw [fhI_e], ?_, fun i c' hi => ?_, fr_I (fr_I (fr_mo g4 (fun t j z => by omega)) (by omega)) (by omega)⟩
    · simp (disch := omega) only [fhI_e, fhI_o, fhI_s]; exact g3
    · simp (disch := omega) only [fhI_e, fhI_o, fhI_s]
    · simp (disch := omega) only [fhI_e, fhI_o, fhI_s]; exact g1
    · have := (List.getElem?_eq_some_iff.mp hi).1
      simp (disch := omega) only [fhI_e, fhI_o, fhI_s]
      rw [g2 i this]
      exact hS.2 i c' hi
