/-! THE CLASS READS A SLIP, A TEST, A STATEMENT -/
section
variable {T : tT} {m P : Nat}
theorem cs_slip (hT : tOK T) (hm : tend T m) (hP : fhiP P = true) {k : Nat} {p : fhPS} {out : gC} {σ : fhM} (h : cP T m k σ) (hk : k ≤ m) (hr : cRp P p out σ) (hl : out.length ≤ k) (ho : sOK T p k) (hn : p.n < 60) :
    wq (f_X7_readStatement_133 P (fhI (f_X8_takeNumberWithin (0 : Int32) (100 : Int32) σ).2 P 13 (f_X8_takeNumberWithin (0 : Int32) (100 : Int32) σ).1)) (fun s2 => cRes T m P (sSlip T p k) s2 ∧ fpl (pD P) σ s2) := by
  have hp := ph_P hP
  obtain ⟨n1, n2, n3⟩ := c_tnw (lo := 0) (hi := 100) hT hm h (by decide) (by decide)
  rw [show (0 : Int32) = nI 0 from rfl, show (100 : Int32) = nI 100 from rfl]
  have f1 : fpl (pD P) σ (f_X8_takeNumberWithin (nI 0) (nI 100) σ).2 := fpl_r n3 (fun _ _ => cDf_pD)
  unfold sSlip
  by_cases q : (nF T k 0 100).1 = 0
  · obtain ⟨n4, n5⟩ := n1 q
    obtain ⟨z1, z2, z3, z4⟩ := nF_0 q
    have hkm := c_kd hm (show kd T k ≠ 0 by omega)
    have hr2 : cRp P p out (f_X8_takeNumberWithin (nI 0) (nI 100) σ).2 := cRp_fr hr (fun t j h1 h2 => n3.2 t j (by unfold cDf; omega))
    rw [gif_t q, n5]
    generalize (f_X8_takeNumberWithin (nI 0) (nI 100) σ).2 = σ1 at *
    obtain ⟨h1, h2, h3, h4, h5, h6, h7, h8, h9, h10, h11, h12⟩ := hr2
    obtain ⟨o1, o2, o3, o4, o5, o6, o7, o8, o9, o10, o11, o12, o13⟩ := ho
    refine wq_mono (cs_semi (p := (fhPS.wsl p (nv T k))) (out := out) (k := k + 1) hT hm hP (cP_fr n4 (fun j => ?_) (fun j => ?_)) (by omega) ?_ (by omega) hn ?_) (fun s2 z => ⟨z.1, fpl_tr (fpl_I f1 (by unfold pD; omega)) z.2⟩)
    · simp (disch := omega) only [fhI_e, fhI_o, fhI_s]
    · simp (disch := omega) only [fhI_e, fhI_o, fhI_s]
    · refine ⟨?_, ?_, cN_fr h3 (by simp (disch := omega) only [fhI_e, fhI_o, fhI_s]) (fun i => by simp (disch := omega) only [fhI_e, fhI_o, fhI_s]), ?_, ?_, ?_, ?_, ?_, ?_, cTs_fr h10 (fun j => by simp (disch := omega) only [fhI_e, fhI_o, fhI_s]), cTs_fr h11 (fun j => by simp (disch := omega) only [fhI_e, fhI_o, fhI_s]), cS_fr h12 (by simp (disch := omega) only [fhI_e, fhI_o, fhI_s]) (fun i => by simp (disch := omega) only [fhI_e, fhI_o, fhI_s])⟩
      · simp (disch := omega) only [fhI_e, fhI_o, fhI_s]; exact h1
      · simp (disch := omega) only [fhI_e, fhI_o, fhI_s]; exact h2
      · simp (disch := omega) only [fhI_e, fhI_o, fhI_s]; exact h4
      · simp (disch := omega) only [fhI_e, fhI_o, fhI_s]; exact h5
      · simp (disch := omega) only [fhI_e, fhI_o, fhI_s]
      · simp (disch := omega) only [fhI_e, fhI_o, fhI_s]; exact h7
      · simp (disch := omega) only [fhI_e, fhI_o, fhI_s]; exact h8
      · intro x hx; simp (disch := omega) only [fhI_e, fhI_o, fhI_s]; exact h9 x hx
    · by_cases q6 : isg T (k + 1) 59
      · left
        have hk3 := kd_num (isg_k q6)
        exact ⟨by show 1 ≤ p.n + 1; omega, by show p.n + 1 ≤ 60; omega, o3, o4, o5, o6, o7, o8, o9, z4, o11, by show (p.ru.map List.length).sum + (p.fa.map List.length).sum ≤ k + 1 + 1; omega, by omega⟩
      · exact Or.inr q6
  · have hF := n2 q
    rw [gif_f q]
    exact wq_mono (cs_semiN hP (cF_fr hF (fun j => fhI_o (by omega)))) (fun s2 z => ⟨z.1, fpl_tr (fpl_I f1 (by unfold pD; omega)) z.2⟩)
theorem cs_begin (P : Nat) (hP : fhiP P = true) (σ : fhM) : f_X5_begin (P + 1) P (0 : Int32) σ = some (fhI (fhI (fhR (fhR σ 9 1 (P + 1)) 9 2 P) 9 3 0) 9 4 0) := by
  unfold f_X5_begin
  rw [if_pos]
  rcases ph_P hP with rfl | rfl <;> rfl
theorem cs_noteN (hP : fhiP P = true) {e : Nat × Nat} {σ : fhM} (h : cF e σ) (w st : Int32) : cF e (f_X7_noteTest P w st σ) ∧ fpl (pD P) σ (f_X7_noteTest P w st σ) := by
  have hp := ph_P hP
  have pf : ∀ (t : Nat) (a b c d : Int32), t = P + 6 ∨ t = P + 8 → ∀ s, cF e s → cF e (fcP (fcP s t a b) t c d) ∧ fpl (pD P) s (fcP (fcP s t a b) t c d) := by
    intro t a b c d ht s hs
    refine ⟨cF_fr hs (fun j => ?_), fpl_P (fpl_P fpl_rf ?_) ?_⟩
    · rw [fcP_fr.2 3 j (by omega), fcP_fr.2 3 j (by omega)]
    all_goals (unfold pD; omega)
  unfold f_X7_noteTest
  split
  · obtain ⟨a, b⟩ := pf (P + 6) ((2 : Int32) * (σ.1 P 11)) st (((2 : Int32) * ((fcP σ (P + 6) ((2 : Int32) * (σ.1 P 11)) st).1 P 11)) + (1 : Int32)) ((fcP σ (P + 6) ((2 : Int32) * (σ.1 P 11)) st).1 (P + 1) 1) (Or.inl rfl) σ h
    exact ⟨cF_fr a (fun j => fhI_o (by omega)), fpl_I b (by unfold pD; omega)⟩
  · obtain ⟨a, b⟩ := pf (P + 8) ((2 : Int32) * (σ.1 P 12)) st (((2 : Int32) * ((fcP σ (P + 8) ((2 : Int32) * (σ.1 P 12)) st).1 P 12)) + (1 : Int32)) ((fcP σ (P + 8) ((2 : Int32) * (σ.1 P 12)) st).1 (P + 1) 1) (Or.inr rfl) σ h
    exact ⟨cF_fr a (fun j => fhI_o (by omega)), fpl_I b (by unfold pD; omega)⟩
theorem gD_pD (hP : fhiP P = true) {t j : Nat} (h : gD (P + 1) t j) : pD P t := by
  have hp := ph_P hP
  unfold gD cDf cDk at h; unfold pD; omega
/-- in a fault, a test is passed over -/
theorem cs_testN (hP : fhiP P = true) {e : Nat × Nat} {σ : fhM} (h : cF e σ) (w st : Int32) : wq (Option.bind (f_X5_begin (P + 1) P (0 : Int32) σ) fun q5 => Option.bind (f_X5_testN q5) fun q6 => fhlet (f_X7_noteTest P w st q6) fun q7 => f_X7_readStatement_133 P q7) (fun s2 => cF e s2 ∧ fpl (pD P) σ s2) := by
  have hp := ph_P hP
  have hK : fhiK (P + 1) = true := by rcases hp with rfl | rfl <;> rfl
  rw [cs_begin P hP, wq_bind, wq_some, wq_bind]
  have hz : cZ (P + 1) P false e (fhI (fhI (fhR (fhR σ 9 1 (P + 1)) 9 2 P) 9 3 0) 9 4 0) := by
    refine ⟨cF_fr h (fun j => ?_), ?_, ?_, ?_, hK, fun _ => hP⟩
    · rw [fhI_o (by decide), fhI_o (by decide), fhR_1, fhR_1]
    · rw [fhI_2, fhI_2, fhR_r, if_neg (by decide), fhR_r, if_pos ⟨rfl, rfl⟩]
    · rw [fhI_2, fhI_2, fhR_r, if_pos ⟨rfl, rfl⟩]
    · rw [fhI_s (by decide), fhI_e]; rfl
  have f0 : fpl (pD P) σ (fhI (fhI (fhR (fhR σ 9 1 (P + 1)) 9 2 P) 9 3 0) 9 4 0) := by
    refine fpl_I (fpl_I (fpl_R (fpl_R fpl_rf ?_) ?_) ?_) ?_
    all_goals (unfold pD; omega)
  unfold f_X5_testN
  refine wq_mono (cZ_test (by omega) hz) (fun s z => ?_)
  rw [wq_let]
  obtain ⟨a, b⟩ := cs_noteN hP z.1.1 w st
  exact wq_mono (cs_semiN hP a) (fun s2 z2 => ⟨z2.1, fpl_tr (fpl_tr (fpl_tr f0 (fpl_r z.2 (fun _ _ => gD_pD hP))) b) z2.2⟩)
/-- the steps noted -/
theorem cTs_add {t : Nat} {cs : List gC} {out c : gC} {σ σ' : fhM} (h : cTs t cs out σ) (h1 : σ'.1 t (2 * cs.length) = nI out.length) (h2 : σ'.1 t (2 * cs.length + 1) = nI (out.length + c.length)) (hf : ∀ j, j < 2 * cs.length → σ'.1 t j = σ.1 t j) : cTs t (cs ++ [c]) (out ++ c) σ' := by
  intro r c' hc
  rcases Nat.lt_or_ge r cs.length with y | y
  · rw [List.getElem?_append_left y] at hc
    obtain ⟨a, g1, g2, g3, g4⟩ := h r c' hc
    refine ⟨a, by rw [hf _ (by omega)]; exact g1, by rw [hf _ (by omega)]; exact g2, by rw [List.length_append]; omega, fun i hi => ?_⟩
    rw [List.getElem?_append_left (by omega)]
    exact g4 i hi
  · rw [List.getElem?_append_right y] at hc
    have e : r - cs.length = 0 := by
      cases y5 : r - cs.length with
      | zero => rfl
      | succ n => rw [y5] at hc; cases hc
    rw [e] at hc
    cases hc
    have er : r = cs.length := by omega
    rw [er]
    refine ⟨out.length, h1, h2, by rw [List.length_append]; omega, fun i hi => ?_⟩
    rw [List.getElem?_append_right (by omega), show out.length + i - out.length = i by omega]
theorem sum_app (l : List Nat) (x : Nat) : (l ++ [x]).sum = l.sum + x := by
  induction l with
  | nil => simp
  | cons a r ih => simp only [List.cons_append, List.sum_cons, ih]; omega
theorem cs_test (hT : tOK T) (hm : tend T m) (hP : fhiP P = true) {k : Nat} {p : fhPS} {out : gC} {σ : fhM} (h : cP T m k σ) (hk : k ≤ m) (hr : cRp P p out σ) (hl : out.length ≤ k) (ho : sOK T p k) (hn : p.n < 60) (is : Bool) (hi : (bif is then p.ru.length < 4 else p.fa.length < 8)) :
    wq (Option.bind (f_X5_begin (P + 1) P (0 : Int32) σ) fun q5 => Option.bind (f_X5_testN q5) fun q6 => fhlet (f_X7_noteTest P (bif is then 5 else 6) (σ.1 (P + 1) 1) q6) fun q7 => f_X7_readStatement_133 P q7) (fun s2 => cRes T m P (sTest T p is k) s2 ∧ fpl (pD P) σ s2) := by
  have hp := ph_P hP
  have hK : fhiK (P + 1) = true := by rcases hp with rfl | rfl <;> rfl
  rw [cs_begin P hP, wq_bind, wq_some, wq_bind]
  have hr0 : cRp P p out (fhI (fhI (fhR (fhR σ 9 1 (P + 1)) 9 2 P) 9 3 0) 9 4 0) := by
    refine cRp_fr hr (fun t j h1 h2 => ?_)
    rw [fhI_o (by omega), fhI_o (by omega), fhR_1, fhR_1]
  have hg : cG T m (P + 1) P false p.nl 0 k out (fhI (fhI (fhR (fhR σ 9 1 (P + 1)) 9 2 P) 9 3 0) 9 4 0) := by
    refine ⟨cP_fr h (fun j => ?_) (fun j => ?_), hk, hr0.2.2.2.2.2.2.2.2.2.2.2, hl, ?_, ⟨?_, ?_, ?_, hK, fun _ => hP⟩, fun _ => hr0.2.2.1⟩
    · rw [fhI_o (by decide), fhI_o (by decide), fhR_1, fhR_1]
    · rw [fhI_o (by decide), fhI_o (by decide), fhR_1, fhR_1]
    · rw [fhI_e]; rfl
    · rw [fhI_2, fhI_2, fhR_r, if_neg (by decide), fhR_r, if_pos ⟨rfl, rfl⟩]
    · rw [fhI_2, fhI_2, fhR_r, if_pos ⟨rfl, rfl⟩]
    · rw [fhI_s (by decide), fhI_e]; rfl
  have f0 : fpl (pD P) σ (fhI (fhI (fhR (fhR σ 9 1 (P + 1)) 9 2 P) 9 3 0) 9 4 0) := by
    refine fpl_I (fpl_I (fpl_R (fpl_R fpl_rf ?_) ?_) ?_) ?_
    all_goals (unfold pD; omega)
  have hst : σ.1 (P + 1) 1 = nI out.length := hr.2.2.2.2.2.2.2.2.2.2.2.1
  rw [hst]
  generalize (fhI (fhI (fhR (fhR σ 9 1 (P + 1)) 9 2 P) 9 3 0) 9 4 0) = σ0 at *
  unfold f_X5_testN
  have hrd := rdT_some (T := T) hT.1 (q := false) (nl := p.nl) (w := 0) (k := k)
  have := gA_all (K := P + 1) (P := P) hT hm rdN 0 0 k _ hrd 64 0 σ0 out (by simp only [glv]; omega) (by omega) hg (Nat.zero_le _)
  refine wq_mono this (fun s z => ?_)
  rw [wq_let]
  have f1 : fpl (pD P) σ s := fpl_tr f0 (fpl_r z.2 (fun _ _ => gD_pD hP))
  unfold sTest
  cases hx : rdT T false p.nl 0 k with
  | inl e =>
    rw [hx] at z
    have hz : cZ (P + 1) P false e s := z.1
    obtain ⟨a, b⟩ := cs_noteN hP hz.1 (bif is then 5 else 6) (nI out.length)
    exact wq_mono (cs_semiN hP a) (fun s2 z2 => ⟨z2.1, fpl_tr (fpl_tr f1 b) z2.2⟩)
  | inr x =>
    obtain ⟨j, c⟩ := x
    rw [hx] at z hrd
    have hz : cG T m (P + 1) P false p.nl 0 j (out ++ c) s := z.1
    have hfit : k + 1 ≤ j ∧ k + c.length ≤ j := rd_fit T false p.nl rdN 0 0 k _ hrd
    have hfr : ∀ t j, P ≤ t → t ≤ P + 11 → ¬ (t = P + 3 ∨ (t = P + 1 ∧ j = 1)) → s.1 t j = σ0.1 t j := fun t j h1 h2 h3 => z.2.2 t j (by unfold gD cDf cDk; omega)
    obtain ⟨h1, h2, h3, h4, h5, h6, h7, h8, h9, h10, h11, h12⟩ := hr0
    obtain ⟨o1, o2, o3, o4, o5, o6, o7, o8, o9, o10, o11, o12, o13⟩ := ho
    obtain ⟨s1, s2, s3⟩ := hz.2.2.1
    have hjm := hz.2.1
    have hjT := hm.1
    have e11 : s.1 P 11 = nI p.ru.length := by rw [hfr P 11 (by omega) (by omega) (by omega)]; exact h4
    have e12 : s.1 P 12 = nI p.fa.length := by rw [hfr P 12 (by omega) (by omega) (by omega)]; exact h5
    have hlen2 : (out ++ c).length = out.length + c.length := List.length_append
    dsimp only
    cases is with
    | true =>
      have hi : p.ru.length < 4 := hi
      have hnote : f_X7_noteTest P (bif true then 5 else 6) (nI out.length) s = fhI (fhI (fhI s (P + 7) (2 * p.ru.length) (nI out.length)) (P + 7) (2 * p.ru.length + 1) (nI (out ++ c).length)) P 11 (nI (p.ru.length + 1)) := by
        unfold f_X7_noteTest
        rw [if_pos (show (bif true then (5 : Int32) else 6) = 5 from rfl), e11, show (2 : Int32) = nI 2 from rfl, pk_mul, fcP_at (fcL_P6 hP) (show 2 * p.ru.length < 8 by omega) (by omega), show P + 6 + 1 = P + 7 by omega]
        have a1 : (fhI s (P + 7) (2 * p.ru.length) (nI out.length)).1 P 11 = nI p.ru.length := by rw [fhI_o (by omega)]; exact e11
        have a2 : (fhI s (P + 7) (2 * p.ru.length) (nI out.length)).1 (P + 1) 1 = nI (out ++ c).length := by rw [fhI_o (by omega)]; exact s1
        rw [a1, a2, pk_mul, nI_1, fcP_at (fcL_P6 hP) (show 2 * p.ru.length + 1 < 8 by omega) (by omega), show P + 6 + 1 = P + 7 by omega]
        have a3 : (fhI (fhI s (P + 7) (2 * p.ru.length) (nI out.length)) (P + 7) (2 * p.ru.length + 1) (nI (out ++ c).length)).1 P 11 = nI p.ru.length := by rw [fhI_o (by omega)]; exact a1
        rw [a3, nI_1]
      rw [hnote]
      have hf : fpl (pD P) σ (fhI (fhI (fhI s (P + 7) (2 * p.ru.length) (nI out.length)) (P + 7) (2 * p.ru.length + 1) (nI (out ++ c).length)) P 11 (nI (p.ru.length + 1))) := by
        refine fpl_I (fpl_I (fpl_I f1 ?_) ?_) ?_
        all_goals (unfold pD; omega)
      refine wq_mono (cs_semi (p := (fhPS.wru p (p.ru ++ [c]))) (out := out ++ c) (k := j) hT hm hP (cP_fr hz.1 (fun j => ?_) (fun j => ?_)) hjm ?_ (by omega) hn ?_) (fun s2 z => ⟨z.1, fpl_tr hf z.2⟩)
      · simp (disch := omega) only [fhI_e, fhI_o, fhI_s]
      · simp (disch := omega) only [fhI_e, fhI_o, fhI_s]
      · refine ⟨?_, ?_, cN_fr h3 ?_ (fun i => ?_), ?_, ?_, ?_, ?_, ?_, ?_, ?_, cTs_fr (cTs_ext h11) (fun i => ?_), cS_fr ⟨s1, s2, s3⟩ (by simp (disch := omega) only [fhI_e, fhI_o, fhI_s]) (fun i => by simp (disch := omega) only [fhI_e, fhI_o, fhI_s])⟩
        · simp (disch := omega) only [fhI_e, fhI_o, fhI_s]; rw [hfr P 8 (by omega) (by omega) (by omega)]; exact h1
        · simp (disch := omega) only [fhI_e, fhI_o, fhI_s]; rw [hfr P 9 (by omega) (by omega) (by omega)]; exact h2
        · simp (disch := omega) only [fhI_e, fhI_o, fhI_s]; exact hfr P 10 (by omega) (by omega) (by omega)
        · simp (disch := omega) only [fhI_e, fhI_o, fhI_s]; exact hfr _ i (by omega) (by omega) (by omega)
        · simp (disch := omega) only [fhI_e, fhI_o, fhI_s]
          show _ = nI (p.ru ++ [c]).length
          rw [List.length_append, List.length_singleton]
        · simp (disch := omega) only [fhI_e, fhI_o, fhI_s]; exact e12
        · simp (disch := omega) only [fhI_e, fhI_o, fhI_s]; rw [hfr P 13 (by omega) (by omega) (by omega)]; exact h6
        · simp (disch := omega) only [fhI_e, fhI_o, fhI_s]; rw [hfr P 14 (by omega) (by omega) (by omega)]; exact h7
        · simp (disch := omega) only [fhI_e, fhI_o, fhI_s]; rw [hfr P 6 (by omega) (by omega) (by omega)]; exact h8
        · intro x hx; simp (disch := omega) only [fhI_e, fhI_o, fhI_s]; rw [hfr _ x (by omega) (by omega) (by omega)]; exact h9 x hx
        · refine cTs_add h10 ?_ ?_ (fun i hi => ?_)
          · simp (disch := omega) only [fhI_e, fhI_o, fhI_s]
          · simp (disch := omega) only [fhI_e, fhI_o, fhI_s]; rw [hlen2]
          · simp (disch := omega) only [fhI_e, fhI_o, fhI_s]; exact hfr _ i (by omega) (by omega) (by omega)
        · simp (disch := omega) only [fhI_e, fhI_o, fhI_s]; exact hfr _ i (by omega) (by omega) (by omega)
      · by_cases q6 : isg T j 59
        · left
          have hk3 := kd_num (isg_k q6)
          refine ⟨by show 1 ≤ p.n + 1; omega, by show p.n + 1 ≤ 60; omega, o3, o4, o5, o6, o7, by show (p.ru ++ [c]).length ≤ 4; rw [List.length_append, List.length_singleton]; omega, o9, o10, ?_, ?_, by omega⟩
          · intro c' hc'
            have hc' : c' ∈ p.ru ++ [c] ∨ c' ∈ p.fa := hc'
            rcases hc' with y | y
            · rcases List.mem_append.mp y with y2 | y2
              · exact o11 c' (Or.inl y2)
              · cases List.mem_singleton.mp y2
                exact ⟨p.nl, k, j, hrd, by rw [nl_len]; exact Nat.le_refl _⟩
            · exact o11 c' (Or.inr y)
          · show ((p.ru ++ [c]).map List.length).sum + (p.fa.map List.length).sum ≤ j + 1
            rw [List.map_append, show [c].map List.length = [c.length] from rfl, sum_app]
            omega
        · exact Or.inr q6
    | false =>
      have hi : p.fa.length < 8 := hi
      have hnote : f_X7_noteTest P (bif false then 5 else 6) (nI out.length) s = fhI (fhI (fhI s (P + 9) (2 * p.fa.length) (nI out.length)) (P + 9) (2 * p.fa.length + 1) (nI (out ++ c).length)) P 12 (nI (p.fa.length + 1)) := by
        unfold f_X7_noteTest
        rw [if_neg (show ¬ (bif false then (5 : Int32) else 6) = 5 by decide), e12, show (2 : Int32) = nI 2 from rfl, pk_mul, fcP_at (fcL_P8 hP) (show 2 * p.fa.length < 16 by omega) (by omega), show P + 8 + 1 = P + 9 by omega]
        have a1 : (fhI s (P + 9) (2 * p.fa.length) (nI out.length)).1 P 12 = nI p.fa.length := by rw [fhI_o (by omega)]; exact e12
        have a2 : (fhI s (P + 9) (2 * p.fa.length) (nI out.length)).1 (P + 1) 1 = nI (out ++ c).length := by rw [fhI_o (by omega)]; exact s1
        rw [a1, a2, pk_mul, nI_1, fcP_at (fcL_P8 hP) (show 2 * p.fa.length + 1 < 16 by omega) (by omega), show P + 8 + 1 = P + 9 by omega]
        have a3 : (fhI (fhI s (P + 9) (2 * p.fa.length) (nI out.length)) (P + 9) (2 * p.fa.length + 1) (nI (out ++ c).length)).1 P 12 = nI p.fa.length := by rw [fhI_o (by omega)]; exact a1
        rw [a3, nI_1]
      rw [hnote]
      have hf : fpl (pD P) σ (fhI (fhI (fhI s (P + 9) (2 * p.fa.length) (nI out.length)) (P + 9) (2 * p.fa.length + 1) (nI (out ++ c).length)) P 12 (nI (p.fa.length + 1))) := by
        refine fpl_I (fpl_I (fpl_I f1 ?_) ?_) ?_
        all_goals (unfold pD; omega)
      refine wq_mono (cs_semi (p := (fhPS.wfa p (p.fa ++ [c]))) (out := out ++ c) (k := j) hT hm hP (cP_fr hz.1 (fun j => ?_) (fun j => ?_)) hjm ?_ (by omega) hn ?_) (fun s2 z => ⟨z.1, fpl_tr hf z.2⟩)
      · simp (disch := omega) only [fhI_e, fhI_o, fhI_s]
      · simp (disch := omega) only [fhI_e, fhI_o, fhI_s]
      · refine ⟨?_, ?_, cN_fr h3 ?_ (fun i => ?_), ?_, ?_, ?_, ?_, ?_, ?_, cTs_fr (cTs_ext h10) (fun i => ?_), ?_, cS_fr ⟨s1, s2, s3⟩ (by simp (disch := omega) only [fhI_e, fhI_o, fhI_s]) (fun i => by simp (disch := omega) only [fhI_e, fhI_o, fhI_s])⟩
        · simp (disch := omega) only [fhI_e, fhI_o, fhI_s]; rw [hfr P 8 (by omega) (by omega) (by omega)]; exact h1
        · simp (disch := omega) only [fhI_e, fhI_o, fhI_s]; rw [hfr P 9 (by omega) (by omega) (by omega)]; exact h2
        · simp (disch := omega) only [fhI_e, fhI_o, fhI_s]; exact hfr P 10 (by omega) (by omega) (by omega)
        · simp (disch := omega) only [fhI_e, fhI_o, fhI_s]; exact hfr _ i (by omega) (by omega) (by omega)
        · simp (disch := omega) only [fhI_e, fhI_o, fhI_s]; exact e11
        · simp (disch := omega) only [fhI_e, fhI_o, fhI_s]
          show _ = nI (p.fa ++ [c]).length
          rw [List.length_append, List.length_singleton]
        · simp (disch := omega) only [fhI_e, fhI_o, fhI_s]; rw [hfr P 13 (by omega) (by omega) (by omega)]; exact h6
        · simp (disch := omega) only [fhI_e, fhI_o, fhI_s]; rw [hfr P 14 (by omega) (by omega) (by omega)]; exact h7
        · simp (disch := omega) only [fhI_e, fhI_o, fhI_s]; rw [hfr P 6 (by omega) (by omega) (by omega)]; exact h8
        · intro x hx; simp (disch := omega) only [fhI_e, fhI_o, fhI_s]; rw [hfr _ x (by omega) (by omega) (by omega)]; exact h9 x hx
        · simp (disch := omega) only [fhI_e, fhI_o, fhI_s]; exact hfr _ i (by omega) (by omega) (by omega)
        · refine cTs_add h11 ?_ ?_ (fun i hi => ?_)
          · simp (disch := omega) only [fhI_e, fhI_o, fhI_s]
          · simp (disch := omega) only [fhI_e, fhI_o, fhI_s]; rw [hlen2]
          · simp (disch := omega) only [fhI_e, fhI_o, fhI_s]; exact hfr _ i (by omega) (by omega) (by omega)
      · by_cases q6 : isg T j 59
        · left
          have hk3 := kd_num (isg_k q6)
          refine ⟨by show 1 ≤ p.n + 1; omega, by show p.n + 1 ≤ 60; omega, o3, o4, o5, o6, o7, o8, by show (p.fa ++ [c]).length ≤ 8; rw [List.length_append, List.length_singleton]; omega, o10, ?_, ?_, by omega⟩
          · intro c' hc'
            have hc' : c' ∈ p.ru ∨ c' ∈ p.fa ++ [c] := hc'
            rcases hc' with y | y
            · exact o11 c' (Or.inl y)
            · rcases List.mem_append.mp y with y2 | y2
              · exact o11 c' (Or.inr y2)
              · cases List.mem_singleton.mp y2
                exact ⟨p.nl, k, j, hrd, by rw [nl_len]; exact Nat.le_refl _⟩
          · show (p.ru.map List.length).sum + ((p.fa ++ [c]).map List.length).sum ≤ j + 1
            rw [List.map_append, show [c].map List.length = [c.length] from rfl, sum_app]
            omega
        · exact Or.inr q6
end
