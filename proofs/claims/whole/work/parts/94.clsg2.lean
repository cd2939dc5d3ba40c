/-! THE CLASS READS A GUEST, A BLIND ONE, A SLIP, A TEST -/
section
variable {T : tT} {m P : Nat}
theorem cDf_pD {t j : Nat} (h : cDf t j) : pD P t := by unfold cDf at h; unfold pD; omega
theorem cs_guest34N (hP : fhiP P = true) {e : Nat × Nat} {σ : fhM} (h : cF e σ) (v : Int32) : wq (f_X7_readGuest_34 P v σ) (fun s => cF e s ∧ fpl (pD P) σ s) := by
  have hp := ph_P hP
  unfold f_X7_readGuest_34
  rw [wq_let, c_takeWordN h, wq_let, wq_some, c_tnwN h]
  refine ⟨cF_fr h (fun j => ?_), fpl_I (fpl_I (fpl_I (fpl_P fpl_rf ?_) ?_) ?_) ?_⟩
  · rw [fhI_o (by omega), fhI_o (by omega), fhI_o (by omega)]
    exact fcP_fr.2 3 j (by omega)
  all_goals (unfold pD; omega)
theorem nl_app (p : fhPS) (x : List Nat × Nat) (n m2 : Nat) : ({ p with n := n, m := m2, gs := p.gs ++ [x] } : fhPS).nl = p.nl ++ [x.1] := by
  show (p.gs ++ [x]).map Prod.fst = _
  rw [List.map_append]
  rfl
theorem nl_len (p : fhPS) : p.nl.length = p.gs.length := List.length_map _
theorem m_pow {m g : Nat} (hm : m ≤ 4) (hg : g ≤ 5) : m ^ g ≤ 1024 := by
  have h1 : m ^ g ≤ 4 ^ g := Nat.pow_le_pow_left hm g
  have h2 : (4 : Nat) ^ g ≤ 4 ^ 5 := Nat.pow_le_pow_right (by decide) hg
  have h3 : (4 : Nat) ^ 5 = 1024 := by decide
  omega
theorem nv_lt {T : tT} {k : Nat} (hk : kd T k = 2) (q : to T k - fm T k ≤ 4) : nv T k < 10000 := by
  have h0 : kd T k ≠ 0 := by omega
  have e := kd_13 (T := T) (k := k) (by omega)
  have h1 := to_gt (T := T) (k := k) (by omega)
  have := nmv_lt (T := T) (f := fm T k) (to T k - fm T k) (fun j hj => by rw [lt_sort h0 (by omega) (by omega) (by omega)]; omega)
  have hp : (10 : Nat) ^ (to T k - fm T k) ≤ 10 ^ 4 := Nat.pow_le_pow_right (by decide) q
  have h3 : (10 : Nat) ^ 4 = 10000 := by decide
  unfold nv
  omega
theorem nF_0 {T : tT} {k lo hi : Nat} (h : (nF T k lo hi).1 = 0) : kd T k = 2 ∧ to T k - fm T k ≤ 4 ∧ lo ≤ nv T k ∧ nv T k ≤ hi := by
  unfold nF at h
  by_cases h1 : kd T k ≠ 2
  · rw [if_pos h1] at h; cases h
  · rw [if_neg h1] at h
    by_cases h2 : 4 < to T k - fm T k
    · rw [if_pos h2] at h; cases h
    · rw [if_neg h2] at h
      by_cases h3 : nv T k < lo ∨ hi < nv T k
      · rw [if_pos h3] at h; cases h
      · omega
theorem aF_0 {T : tT} {k : Nat} (h : (aF T k).1 = 0) : kd T k = 1 ∧ lt T k ∉ oww ∧ to T k - fm T k ≤ 6 := by
  unfold aF at h
  by_cases h1 : kd T k ≠ 1 ∨ lt T k ∈ oww
  · rw [if_pos h1] at h; cases h
  · rw [if_neg h1] at h
    by_cases h2 : 6 < to T k - fm T k
    · rw [if_pos h2] at h; cases h
    · exact ⟨Decidable.of_not_not (fun z => h1 (Or.inl z)), fun z => h1 (Or.inr z), by omega⟩
theorem aF_name {T : tT} {k : Nat} (h : (aF T k).1 = 0) : (∀ c ∈ lt T k, tS c = 1) ∧ (lt T k).length ≤ 6 ∧ lt T k ≠ [] := by
  obtain ⟨h1, -, h3⟩ := aF_0 h
  have h4 := to_gt (T := T) (k := k) (by omega)
  have hl : (lt T k).length = to T k - fm T k := by rw [lt_bs, bs_len]
  refine ⟨lt_let h1, by omega, fun z => ?_⟩
  rw [z, List.length_nil] at hl
  omega
theorem cs_guest34 (hT : tOK T) (hm : tend T m) (hP : fhiP P = true) {k : Nat} {p : fhPS} {out : gC} {σ : fhM} (h : cP T m (k + 1) σ) (hk : k + 1 ≤ m) (hr : cRp P p out σ) (hl : out.length ≤ k) (ho : sOK T p k) (hn : p.n < 60) (hg : p.gs.length < 5) (ha : (aF T k).1 = 0) :
    wq (f_X7_readGuest_34 P (nI (p5 (lt T k))) σ) (fun s => wq (f_X7_readStatement_141 P s) (fun s2 => cRes T m P
      (gif (isw T (k + 1) 2)
        (gif ((nF T (k + 2) 0 (p.m - 1)).1 = 0) (semi T (k + 3) { p with gs := p.gs ++ [(lt T k, nv T (k + 2))] }) (.inl (nF T (k + 2) 0 (p.m - 1))))
        (.inl (1, fm T (k + 1)))) s2 ∧ fpl (pD P) σ s2)) := by
  have hp := ph_P hP
  obtain ⟨o1, o2, o3, o4, o5, o6, o7, o8, o9, o10, o11, o12, o13⟩ := ho
  obtain ⟨b1, b2, b3⟩ := aF_name ha
  unfold f_X7_readGuest_34
  rw [wq_let, wq_let, wq_some]
  obtain ⟨w1, w2, w3⟩ := c_takeWord (j := 2) hT hm h (by decide)
  have w3 : fr cDf σ (f_X8_takeWord (2 : Int32) σ) := w3
  have bad : ∀ e (σ' : fhM) (k' v : Int32) (a b c : Int32), cF e σ' → fpl (pD P) σ σ' → wq (f_X7_readStatement_141 P (fhI (fhI (fhI (fcP σ' (P + 10) k' v) P 10 a) P 14 b) P 6 c)) (fun s2 => cF e s2 ∧ fpl (pD P) σ s2) := by
    intro e σ' k' v a b c hF hf
    have hF2 : cF e (fhI (fhI (fhI (fcP σ' (P + 10) k' v) P 10 a) P 14 b) P 6 c) := by
      refine cF_fr hF (fun j => ?_)
      rw [fhI_o (by omega), fhI_o (by omega), fhI_o (by omega)]
      exact fcP_fr.2 3 j (by omega)
    refine wq_mono (cs_semiN hP hF2) (fun s2 z => ⟨z.1, fpl_tr (fpl_I (fpl_I (fpl_I (fpl_P hf ?_) ?_) ?_) ?_) z.2⟩)
    all_goals (unfold pD; omega)
  by_cases q : isw T (k + 1) 2
  · have w1 : cP T m (k + 2) (f_X8_takeWord (2 : Int32) σ) := w1 q
    rw [gif_t q]
    have hr2 : cRp P p out (f_X8_takeWord (2 : Int32) σ) := cRp_fr hr (fun t j h1 h2 => w3.2 t j (by unfold cDf; omega))
    generalize f_X8_takeWord (2 : Int32) σ = σ1 at *
    have e9 : σ1.1 P 9 - (1 : Int32) = nI (p.m - 1) := by
      rw [hr2.2.1, show p.m = p.m - 1 + 1 by omega]
      exact nI_pred _
    rw [e9, show (0 : Int32) = nI 0 from rfl]
    obtain ⟨n1, n2, n3⟩ := c_tnw (lo := 0) (hi := p.m - 1) hT hm w1 (by decide) (by omega)
    have hr3 : cRp P p out (f_X8_takeNumberWithin (nI 0) (nI (p.m - 1)) σ1).2 := cRp_fr hr2 (fun t j h1 h2 => n3.2 t j (by unfold cDf; omega))
    by_cases q2 : (nF T (k + 2) 0 (p.m - 1)).1 = 0
    · obtain ⟨n4, n5⟩ := n1 q2
      rw [n5, gif_t q2]
      obtain ⟨z1, z2, z3, z4⟩ := nF_0 q2
      have hkm := c_kd hm (show kd T (k + 2) ≠ 0 by omega)
      generalize (f_X8_takeNumberWithin (nI 0) (nI (p.m - 1)) σ1).2 = σ2 at *
      obtain ⟨h1, h2, h3, h4, h5, h6, h7, h8, h9, h10, h11, h12⟩ := hr3
      have hm4 := m_pow o4 o5
      have hlen := nl_len p
      have hc : σ2.1 P 10 = nI p.gs.length := by rw [h3.1, nl_len]
      rw [hc, fcP_at (fcL_P hP) hg (by omega)]
      have e10 : (fhI σ2 (P + 10 + 1) p.gs.length (nI (p5 (lt T k)))).1 P 10 = nI p.gs.length := by rw [fhI_o (by omega)]; exact hc
      rw [e10, nI_1]
      have e14 : (fhI (fhI σ2 (P + 10 + 1) p.gs.length (nI (p5 (lt T k)))) P 10 (nI (p.gs.length + 1))).1 P 14 = nI (wsum p.m (p.gs.map Prod.snd)) := by simp (disch := omega) only [fhI_e, fhI_o, fhI_s]; exact h7
      have e6 : (fhI (fhI σ2 (P + 10 + 1) p.gs.length (nI (p5 (lt T k)))) P 10 (nI (p.gs.length + 1))).1 P 6 = nI (p.m ^ p.gs.length) := by simp (disch := omega) only [fhI_e, fhI_o, fhI_s]; exact h8
      rw [e14, e6, pk_mul, nI_add]
      have e6b : (fhI (fhI (fhI σ2 (P + 10 + 1) p.gs.length (nI (p5 (lt T k)))) P 10 (nI (p.gs.length + 1))) P 14 (nI (wsum p.m (p.gs.map Prod.snd) + nv T (k + 2) * p.m ^ p.gs.length))).1 P 6 = nI (p.m ^ p.gs.length) := by simp (disch := omega) only [fhI_e, fhI_o, fhI_s]; exact h8
      have e9b : (fhI (fhI (fhI σ2 (P + 10 + 1) p.gs.length (nI (p5 (lt T k)))) P 10 (nI (p.gs.length + 1))) P 14 (nI (wsum p.m (p.gs.map Prod.snd) + nv T (k + 2) * p.m ^ p.gs.length))).1 P 9 = nI p.m := by simp (disch := omega) only [fhI_e, fhI_o, fhI_s]; exact h2
      rw [e6b, e9b, pk_mul]
      have hf : fpl (pD P) σ (fhI (fhI (fhI (fhI σ2 (P + 10 + 1) p.gs.length (nI (p5 (lt T k)))) P 10 (nI (p.gs.length + 1))) P 14 (nI (wsum p.m (p.gs.map Prod.snd) + nv T (k + 2) * p.m ^ p.gs.length))) P 6 (nI (p.m ^ p.gs.length * p.m))) := by
        refine fpl_I (fpl_I (fpl_I (fpl_I (fpl_tr (fpl_r w3 (fun _ _ => cDf_pD)) (fpl_r n3 (fun _ _ => cDf_pD))) ?_) ?_) ?_) ?_
        all_goals (unfold pD; omega)
      refine wq_mono (cs_semi (p := { p with gs := p.gs ++ [(lt T k, nv T (k + 2))] }) (out := out) (k := k + 3) hT hm hP (cP_fr n4 (fun j => ?_) (fun j => ?_)) (by omega) ?_ (by omega) hn ?_) (fun s2 z => ⟨z.1, fpl_tr hf z.2⟩)
      · simp (disch := omega) only [fhI_e, fhI_o, fhI_s]
      · simp (disch := omega) only [fhI_e, fhI_o, fhI_s]
      · have hg3 : p.nl ++ [lt T k] = ({ p with gs := p.gs ++ [(lt T k, nv T (k + 2))] } : fhPS).nl := by
          show _ = (p.gs ++ [(lt T k, nv T (k + 2))]).map Prod.fst
          rw [List.map_append]; rfl
        refine ⟨?_, ?_, ?_, ?_, ?_, ?_, ?_, ?_, ?_, ?_, ?_, ?_⟩
        · simp (disch := omega) only [fhI_e, fhI_o, fhI_s]; exact h1
        · simp (disch := omega) only [fhI_e, fhI_o, fhI_s]; exact h2
        · rw [← hg3]
          refine ⟨?_, by rw [List.length_append, List.length_singleton]; omega, fun g l hgl => ?_⟩
          · simp (disch := omega) only [fhI_e, fhI_o, fhI_s]; rw [List.length_append, List.length_singleton, nl_len]
          · rcases Nat.lt_or_ge g p.nl.length with y | y
            · rw [List.getElem?_append_left y] at hgl
              obtain ⟨y1, y2, y3, y4⟩ := h3.2.2 g l hgl
              refine ⟨y1, y2, y3, ?_⟩
              simp (disch := omega) only [fhI_e, fhI_o, fhI_s]; exact y4
            · rw [List.getElem?_append_right y] at hgl
              have e : g - p.nl.length = 0 := by
                cases y5 : g - p.nl.length with
                | zero => rfl
                | succ n => rw [y5] at hgl; cases hgl
              rw [e] at hgl
              cases hgl
              refine ⟨b1, b2, b3, ?_⟩
              rw [show g = p.gs.length by omega]
              simp (disch := omega) only [fhI_e, fhI_o, fhI_s]
        · simp (disch := omega) only [fhI_e, fhI_o, fhI_s]; exact h4
        · simp (disch := omega) only [fhI_e, fhI_o, fhI_s]; exact h5
        · simp (disch := omega) only [fhI_e, fhI_o, fhI_s]; exact h6
        · simp (disch := omega) only [fhI_e, fhI_o, fhI_s]
          show _ = nI (wsum p.m ((p.gs ++ [(lt T k, nv T (k + 2))]).map Prod.snd))
          rw [List.map_append, show ([(lt T k, nv T (k + 2))] : List (List Nat × Nat)).map Prod.snd = [nv T (k + 2)] from rfl, wsum_app, List.length_map]
        · simp (disch := omega) only [fhI_e, fhI_o, fhI_s]
          show _ = nI (p.m ^ (p.gs ++ [(lt T k, nv T (k + 2))]).length)
          rw [List.length_append, List.length_singleton, Nat.pow_succ]
        · intro a ha; simp (disch := omega) only [fhI_e, fhI_o, fhI_s]; exact h9 a ha
        · exact cTs_fr h10 (fun j => by simp (disch := omega) only [fhI_e, fhI_o, fhI_s])
        · exact cTs_fr h11 (fun j => by simp (disch := omega) only [fhI_e, fhI_o, fhI_s])
        · exact cS_fr h12 (by simp (disch := omega) only [fhI_e, fhI_o, fhI_s]) (fun i => by simp (disch := omega) only [fhI_e, fhI_o, fhI_s])
      · by_cases q3 : isg T (k + 3) 59
        · left
          have hk3 := kd_num (isg_k q3)
          refine ⟨by show 1 ≤ p.n + 1; omega, by show p.n + 1 ≤ 60; omega, o3, o4, by show (p.gs ++ [_]).length ≤ 5; rw [List.length_append, List.length_singleton]; omega, ?_, o7, o8, o9, o10, ?_, by show (p.ru.map List.length).sum + (p.fa.map List.length).sum ≤ k + 3 + 1; omega, by omega⟩
          · intro x hx
            have hx : x ∈ p.gs ++ [(lt T k, nv T (k + 2))] := hx
            rcases List.mem_append.mp hx with y | y
            · exact o6 x y
            · cases List.mem_singleton.mp y
              exact ⟨b1, b2, b3, by show nv T (k + 2) < p.m; omega⟩
          · intro c hc
            obtain ⟨nl, j, i, g1, g2⟩ := o11 c hc
            exact ⟨nl, j, i, g1, by show nl.length ≤ (p.gs ++ [_]).length; rw [List.length_append]; omega⟩
        · exact Or.inr q3
    · have n5 := n2 q2
      rw [gif_f q2]
      exact bad _ _ _ _ _ _ _ n5 (fpl_tr (fpl_r w3 (fun _ _ => cDf_pD)) (fpl_r n3 (fun _ _ => cDf_pD)))
  · have w2 : cF (1, fm T (k + 1)) (f_X8_takeWord (2 : Int32) σ) := w2 q
    rw [gif_f q, c_tnwN w2]
    exact bad _ _ _ _ _ _ _ w2 (fpl_r w3 (fun _ _ => cDf_pD))
end
