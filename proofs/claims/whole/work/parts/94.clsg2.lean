/-! THE CLASS READS A GUEST, A BLIND ONE, A SLIP, A TEST -/
section
variable {T : tT} {m P : Nat}
theorem cDf_pD {t j : Nat} (h : cDf t j) : pD P t := by unfold cDf at h; unfold pD; omega
theorem cs_guest34N (hP : fhiP P = true) {e : Nat × Nat} {σ : fhM} (h : cF e σ) (v : Int32) : wq (f_X7_readGuest_34 P v σ) (fun s => cF e s ∧ fpl (pD P) σ s) := by
  have hp := ph_P hP
  unfold f_X7_readGuest_34
  rw [wq_let, c_takeWordN h, wq_let, wq_some, c_tnwN h]
  refine ⟨cF_fr h (fun j => ?_), fpl_I (fpl_I (fpl_I (fpl_P fpl_rf ?_) ?_) ?_) ?_⟩
  · rw [fhI_o (by omega), fhI_o (by omega), fhI_o (by omega)]
    exact fcP_fr.2 3 j (by omega)
  all_goals (unfold pD; omega)
theorem nl_app (p : fhPS) (x : List Nat × Nat) (n m2 : Nat) : ((fhPS.wgs (fhPS.wm (fhPS.wn p n) m2) (p.gs ++ [x])) : fhPS).nl = p.nl ++ [x.1] := by
  show (p.gs ++ [x]).map Prod.fst = _
  rw [List.map_append]
  rfl
theorem nl_len (p : fhPS) : p.nl.length = p.gs.length := List.length_map _
theorem m_pow {m g : Nat} (hm : m ≤ 4) (hg : g ≤ 5) : m ^ g ≤ 1024 := by
  have h1 : m ^ g ≤ 4 ^ g := Nat.pow_le_pow_left hm g
  have h2 : (4 : Nat) ^ g ≤ 4 ^ 5 := Nat.pow_le_pow_right (by decide) hg
  have h3 : (4 : Nat) ^ 5 = 1024 := by decide
  omega
theorem nv_lt {T : tT} {k : Nat} (hk : kd T k = 2) (q : to T k - fm T k ≤ 4) : nv T k < 10000 := by
  have h0 : kd T k ≠ 0 := by omega
  have e := kd_13 (T := T) (k := k) (by omega)
  have h1 := to_gt (T := T) (k := k) (by omega)
  have := nmv_lt (T := T) (f := fm T k) (to T k - fm T k) (fun j hj => by rw [lt_sort h0 (by omega) (by omega) (by omega)]; omega)
  have hp : (10 : Nat) ^ (to T k - fm T k) ≤ 10 ^ 4 := Nat.pow_le_pow_right (by decide) q
  have h3 : (10 : Nat) ^ 4 = 10000 := by decide
  unfold nv
  omega
theorem nF_0 {T : tT} {k lo hi : Nat} (h : (nF T k lo hi).1 = 0) : kd T k = 2 ∧ to T k - fm T k ≤ 4 ∧ lo ≤ nv T k ∧ nv T k ≤ hi := by
  unfold nF at h
  by_cases h1 : kd T k ≠ 2
  · rw [if_pos h1] at h; cases h
  · rw [if_neg h1] at h
    by_cases h2 : 4 < to T k - fm T k
    · rw [if_pos h2] at h; cases h
    · rw [if_neg h2] at h
      by_cases h3 : nv T k < lo ∨ hi < nv T k
      · rw [if_pos h3] at h; cases h
      · omega
theorem aF_0 {T : tT} {k : Nat} (h : (aF T k).1 = 0) : kd T k = 1 ∧ lt T k ∉ oww ∧ to T k - fm T k ≤ 6 := by
  unfold aF at h
  by_cases h1 : kd T k ≠ 1 ∨ lt T k ∈ oww
  · rw [if_pos h1] at h; cases h
  · rw [if_neg h1] at h
    by_cases h2 : 6 < to T k - fm T k
    · rw [if_pos h2] at h; cases h
    · exact ⟨Decidable.of_not_not (fun z => h1 (Or.inl z)), fun z => h1 (Or.inr z), by omega⟩
theorem aF_name {T : tT} {k : Nat} (h : (aF T k).1 = 0) : (∀ c ∈ lt T k, tS c = 1) ∧ (lt T k).length ≤ 6 ∧ lt T k ≠ [] := by
  obtain ⟨h1, -, h3⟩ := aF_0 h
  have h4 := to_gt (T := T) (k := k) (by omega)
  have hl : (lt T k).length = to T k - fm T k := by rw [lt_bs, bs_len]
  refine ⟨lt_let h1, by omega, fun z => ?_⟩
  rw [z, List.length_nil] at hl
  omega
theorem cs_guest34 (hT : tOK T) (hm : tend T m) (hP : fhiP P = true) {k : Nat} {p : fhPS} {out : gC} {σ : fhM} (h : cP T m (k + 1) σ) (hk : k + 1 ≤ m) (hr : cRp P p out σ) (hl : out.length ≤ k) (ho : sOK T p k) (hn : p.n < 60) (hg : p.gs.length < 5) (ha : (aF T k).1 = 0) :
    wq (f_X7_readGuest_34 P (nI (p5 (lt T k))) σ) (fun s => wq (f_X7_readStatement_133 P s) (fun s2 => cRes T m P
      (gif (isw T (k + 1) 2)
        (gif ((nF T (k + 2) 0 (p.m - 1)).1 = 0) (semi T (k + 3) (fhPS.wgs p (p.gs ++ [(lt T k, nv T (k + 2))]))) (.inl (nF T (k + 2) 0 (p.m - 1))))
        (.inl (1, fm T (k + 1)))) s2 ∧ fpl (pD P) σ s2)) := by
  have hp := ph_P hP
  obtain ⟨o1, o2, o3, o4, o5, o6, o7, o8, o9, o10, o11, o12, o13⟩ := ho
  obtain ⟨b1, b2, b3⟩ := aF_name ha
  unfold f_X7_readGuest_34
  rw [wq_let, wq_let, wq_some]
  obtain ⟨w1, w2, w3⟩ := c_takeWord (j := 2) hT hm h (by decide)
  have w3 : fr cDf σ (f_X8_takeWord (2 : Int32) σ) := w3
  have bad : ∀ e (σ' : fhM) (k' v : Int32) (a b c : Int32), cF e σ' → fpl (pD P) σ σ' → wq (f_X7_readStatement_133 P (fhI (fhI (fhI (fcP σ' (P + 10) k' v) P 10 a) P 14 b) P 6 c)) (fun s2 => cF e s2 ∧ fpl (pD P) σ s2) := by
    intro e σ' k' v a b c hF hf
    have hF2 : cF e (fhI (fhI (fhI (fcP σ' (P + 10) k' v) P 10 a) P 14 b) P 6 c) := by
      refine cF_fr hF (fun j => ?_)
      rw [fhI_o (by omega), fhI_o (by omega), fhI_o (by omega)]
      exact fcP_fr.2 3 j (by omega)
    refine wq_mono (cs_semiN hP hF2) (fun s2 z => ⟨z.1, fpl_tr (fpl_I (fpl_I (fpl_I (fpl_P hf ?_) ?_) ?_) ?_) z.2⟩)
    all_goals (unfold pD; omega)
  by_cases q : isw T (k + 1) 2
  · have w1 : cP T m (k + 2) (f_X8_takeWord (2 : Int32) σ) := w1 q
    rw [gif_t q]
    have hr2 : cRp P p out (f_X8_takeWord (2 : Int32) σ) := cRp_fr hr (fun t j h1 h2 => w3.2 t j (by unfold cDf; omega))
    generalize f_X8_takeWord (2 : Int32) σ = σ1 at *
    have e9 : σ1.1 P 9 - (1 : Int32) = nI (p.m - 1) := by
      rw [hr2.2.1, show p.m = p.m - 1 + 1 by omega]
      exact nI_pred _
    rw [e9, show (0 : Int32) = nI 0 from rfl]
    obtain ⟨n1, n2, n3⟩ := c_tnw (lo := 0) (hi := p.m - 1) hT hm w1 (by decide) (by omega)
    have hr3 : cRp P p out (f_X8_takeNumberWithin (nI 0) (nI (p.m - 1)) σ1).2 := cRp_fr hr2 (fun t j h1 h2 => n3.2 t j (by unfold cDf; omega))
    by_cases q2 : (nF T (k + 2) 0 (p.m - 1)).1 = 0
    · obtain ⟨n4, n5⟩ := n1 q2
      rw [n5, gif_t q2]
      obtain ⟨z1, z2, z3, z4⟩ := nF_0 q2
      have hkm := c_kd hm (show kd T (k + 2) ≠ 0 by omega)
      generalize (f_X8_takeNumberWithin (nI 0) (nI (p.m - 1)) σ1).2 = σ2 at *
      obtain ⟨h1, h2, h3, h4, h5, h6, h7, h8, h9, h10, h11, h12⟩ := hr3
      have hm4 := m_pow o4 o5
      have hlen := nl_len p
      have hc : σ2.1 P 10 = nI p.gs.length := by rw [h3.1, nl_len]
      rw [hc, fcP_at (fcL_P hP) hg (by omega)]
      have e10 : (fhI σ2 (P + 10 + 1) p.gs.length (nI (p5 (lt T k)))).1 P 10 = nI p.gs.length := by rw [fhI_o (by omega)]; exact hc
      rw [e10, nI_1]
      have e14 : (fhI (fhI σ2 (P + 10 + 1) p.gs.length (nI (p5 (lt T k)))) P 10 (nI (p.gs.length + 1))).1 P 14 = nI (wsum p.m (p.gs.map Prod.snd)) := by simp (disch := omega) only [fhI_e, fhI_o, fhI_s]; exact h7
      have e6 : (fhI (fhI σ2 (P + 10 + 1) p.gs.length (nI (p5 (lt T k)))) P 10 (nI (p.gs.length + 1))).1 P 6 = nI (p.m ^ p.gs.length) := by simp (disch := omega) only [fhI_e, fhI_o, fhI_s]; exact h8
      rw [e14, e6, pk_mul, nI_add]
      have e6b : (fhI (fhI (fhI σ2 (P + 10 + 1) p.gs.length (nI (p5 (lt T k)))) P 10 (nI (p.gs.length + 1))) P 14 (nI (wsum p.m (p.gs.map Prod.snd) + nv T (k + 2) * p.m ^ p.gs.length))).1 P 6 = nI (p.m ^ p.gs.length) := by simp (disch := omega) only [fhI_e, fhI_o, fhI_s]; exact h8
      have e9b : (fhI (fhI (fhI σ2 (P + 10 + 1) p.gs.length (nI (p5 (lt T k)))) P 10 (nI (p.gs.length + 1))) P 14 (nI (wsum p.m (p.gs.map Prod.snd) + nv T (k + 2) * p.m ^ p.gs.length))).1 P 9 = nI p.m := by simp (disch := omega) only [fhI_e, fhI_o, fhI_s]; exact h2
      rw [e6b, e9b, pk_mul]
      have hf : fpl (pD P) σ (fhI (fhI (fhI (fhI σ2 (P + 10 + 1) p.gs.length (nI (p5 (lt T k)))) P 10 (nI (p.gs.length + 1))) P 14 (nI (wsum p.m (p.gs.map Prod.snd) + nv T (k + 2) * p.m ^ p.gs.length))) P 6 (nI (p.m ^ p.gs.length * p.m))) := by
        refine fpl_I (fpl_I (fpl_I (fpl_I (fpl_tr (fpl_r w3 (fun _ _ => cDf_pD)) (fpl_r n3 (fun _ _ => cDf_pD))) ?_) ?_) ?_) ?_
        all_goals (unfold pD; omega)
      refine wq_mono (cs_semi (p := (fhPS.wgs p (p.gs ++ [(lt T k, nv T (k + 2))]))) (out := out) (k := k + 3) hT hm hP (cP_fr n4 (fun j => ?_) (fun j => ?_)) (by omega) ?_ (by omega) hn ?_) (fun s2 z => ⟨z.1, fpl_tr hf z.2⟩)
      · simp (disch := omega) only [fhI_e, fhI_o, fhI_s]
      · simp (disch := omega) only [fhI_e, fhI_o, fhI_s]
      · have hg3 : p.nl ++ [lt T k] = ((fhPS.wgs p (p.gs ++ [(lt T k, nv T (k + 2))])) : fhPS).nl := by
          show _ = (p.gs ++ [(lt T k, nv T (k + 2))]).map Prod.fst
          rw [List.map_append]; rfl
        refine ⟨?_, ?_, ?_, ?_, ?_, ?_, ?_, ?_, ?_, ?_, ?_, ?_⟩
        · simp (disch := omega) only [fhI_e, fhI_o, fhI_s]; exact h1
        · simp (disch := omega) only [fhI_e, fhI_o, fhI_s]; exact h2
        · rw [← hg3]
          refine ⟨?_, by rw [List.length_append, List.length_singleton]; omega, fun g l hgl => ?_⟩
          · simp (disch := omega) only [fhI_e, fhI_o, fhI_s]; rw [List.length_append, List.length_singleton, nl_len]
          · rcases Nat.lt_or_ge g p.nl.length with y | y
            · rw [List.getElem?_append_left y] at hgl
              obtain ⟨y1, y2, y3, y4⟩ := h3.2.2 g l hgl
              refine ⟨y1, y2, y3, ?_⟩
              simp (disch := omega) only [fhI_e, fhI_o, fhI_s]; exact y4
            · rw [List.getElem?_append_right y] at hgl
              have e : g - p.nl.length = 0 := by
                cases y5 : g - p.nl.length with
                | zero => rfl
                | succ n => rw [y5] at hgl; cases hgl
              rw [e] at hgl
              cases hgl
              refine ⟨b1, b2, b3, ?_⟩
              rw [show g = p.gs.length by omega]
              simp (disch := omega) only [fhI_e, fhI_o, fhI_s]
        · simp (disch := omega) only [fhI_e, fhI_o, fhI_s]; exact h4
        · simp (disch := omega) only [fhI_e, fhI_o, fhI_s]; exact h5
        · simp (disch := omega) only [fhI_e, fhI_o, fhI_s]; exact h6
        · simp (disch := omega) only [fhI_e, fhI_o, fhI_s]
          show _ = nI (wsum p.m ((p.gs ++ [(lt T k, nv T (k + 2))]).map Prod.snd))
          rw [List.map_append, show ([(lt T k, nv T (k + 2))] : List (List Nat × Nat)).map Prod.snd = [nv T (k + 2)] from rfl, wsum_app, List.length_map]
        · simp (disch := omega) only [fhI_e, fhI_o, fhI_s]
          show _ = nI (p.m ^ (p.gs ++ [(lt T k, nv T (k + 2))]).length)
          rw [List.length_append, List.length_singleton, Nat.pow_succ]
        · intro a ha; simp (disch := omega) only [fhI_e, fhI_o, fhI_s]; exact h9 a ha
        · exact cTs_fr h10 (fun j => by simp (disch := omega) only [fhI_e, fhI_o, fhI_s])
        · exact cTs_fr h11 (fun j => by simp (disch := omega) only [fhI_e, fhI_o, fhI_s])
        · exact cS_fr h12 (by simp (disch := omega) only [fhI_e, fhI_o, fhI_s]) (fun i => by simp (disch := omega) only [fhI_e, fhI_o, fhI_s])
      · by_cases q3 : isg T (k + 3) 59
        · left
          have hk3 := kd_num (isg_k q3)
          refine ⟨by show 1 ≤ p.n + 1; omega, by show p.n + 1 ≤ 60; omega, o3, o4, by show (p.gs ++ [_]).length ≤ 5; rw [List.length_append, List.length_singleton]; omega, ?_, o7, o8, o9, o10, ?_, by show (p.ru.map List.length).sum + (p.fa.map List.length).sum ≤ k + 3 + 1; omega, by omega⟩
          · intro x hx
            have hx : x ∈ p.gs ++ [(lt T k, nv T (k + 2))] := hx
            rcases List.mem_append.mp hx with y | y
            · exact o6 x y
            · cases List.mem_singleton.mp y
              exact ⟨b1, b2, b3, by show nv T (k + 2) < p.m; omega⟩
          · intro c hc
            obtain ⟨nl, j, i, g1, g2⟩ := o11 c hc
            exact ⟨nl, j, i, g1, by show nl.length ≤ (p.gs ++ [_]).length; rw [List.length_append]; omega⟩
        · exact Or.inr q3
    · have n5 := n2 q2
      rw [gif_f q2]
      exact bad _ _ _ _ _ _ _ n5 (fpl_tr (fpl_r w3 (fun _ _ => cDf_pD)) (fpl_r n3 (fun _ _ => cDf_pD)))
  · have w2 : cF (1, fm T (k + 1)) (f_X8_takeWord (2 : Int32) σ) := w2 q
    rw [gif_f q, c_tnwN w2]
    exact bad _ _ _ _ _ _ _ w2 (fpl_r w3 (fun _ _ => cDf_pD))
end
theorem nix_mem {l : List Nat} : ∀ (ns : List (List Nat)) (i : Nat), nix ns i l = none → l ∉ ns := by
  intro ns
  induction ns with
  | nil => intro _ _ h; cases h
  | cons n ns ih =>
    intro i h hm
    unfold nix at h
    by_cases q : n = l
    · rw [if_pos q] at h; cases h
    · rw [if_neg q] at h
      rcases List.mem_cons.mp hm with y | y
      · exact q y.symm
      · exact ih (i + 1) h y
theorem nix_in {l : List Nat} {ns : List (List Nat)} {g : Nat} (h : nix ns 0 l = some g) : g < ns.length ∧ l ∈ ns := by
  obtain ⟨_, h2, h3⟩ := nix_lt ns 0 g h
  exact ⟨by omega, List.mem_of_getElem? h3⟩
section
variable {T : tT} {m P : Nat}
theorem cs_guest (hT : tOK T) (hm : tend T m) (hP : fhiP P = true) {k : Nat} {p : fhPS} {out : gC} {σ : fhM} (h : cP T m k σ) (hk : k ≤ m) (hr : cRp P p out σ) (hl : out.length ≤ k) (ho : sOK T p k) (hn : p.n < 60) (hg : p.gs.length < 5) :
    wq (f_X7_readGuest P σ) (fun s => wq (f_X7_readStatement_133 P s) (fun s2 => cRes T m P (sGuest T p k) s2 ∧ fpl (pD P) σ s2)) := by
  have hp := ph_P hP
  obtain ⟨n1, n2, n3⟩ := c_name hT hm h
  have f1 : fpl (pD P) σ (f_X8_takeName σ).2 := fpl_r n3 (fun _ _ => cDf_pD)
  have hr2 : cRp P p out (f_X8_takeName σ).2 := cRp_fr hr (fun t j h1 h2 => n3.2 t j (by unfold cDf; omega))
  have bad : ∀ e (σ' : fhM) (v : Int32), cF e σ' → fpl (pD P) σ σ' → wq (f_X7_readGuest_34 P v σ') (fun s => wq (f_X7_readStatement_133 P s) (fun s2 => cF e s2 ∧ fpl (pD P) σ s2)) := by
    intro e σ' v hF hf
    exact wq_mono (cs_guest34N hP hF v) (fun s z => wq_mono (cs_semiN hP z.1) (fun s2 z2 => ⟨z2.1, fpl_tr (fpl_tr hf z.2) z2.2⟩))
  unfold f_X7_readGuest sGuest
  rw [wq_let, wq_bind]
  by_cases q : (aF T k).1 = 0
  · obtain ⟨e1, e2⟩ := n1 q
    obtain ⟨b1, b2, b3⟩ := aF_name q
    have hkd := (aF_0 q).1
    have hkm := c_kd hm (show kd T k ≠ 0 by omega)
    rw [gif_t q, e1]
    refine wq_of (c_gn hP hr2.2.2.1 b1 b2) ?_
    cases hx : nix p.nl 0 (lt T k) with
    | none =>
      rw [gif_f (nix_mem _ _ hx), show nixI none = (-1 : Int32) from rfl, if_pos (show (-1 : Int32) = -1 from rfl)]
      refine wq_mono (cs_guest34 hT hm hP e2 (by omega) hr2 hl ho hn hg q) (fun s z => wq_mono z (fun s2 z2 => ⟨z2.1, fpl_tr f1 z2.2⟩))
    | some g =>
      obtain ⟨g1, g2⟩ := nix_in hx
      have := nl_len p
      rw [gif_t g2, show nixI (some g) = nI g from rfl, if_neg (ph_m1n (by omega)), wq_let, h.2.2.2.2.2.1]
      obtain ⟨a, b⟩ := c_fail (e := (3, fm T k)) e2 ⟨Nat.le_of_ble_eq_true rfl, Nat.le_of_ble_eq_true rfl⟩
      exact bad _ _ _ a (fpl_tr f1 (fpl_r b (fun _ _ => cDf_pD)))
  · have hF := n2 q
    rw [gif_f q]
    obtain ⟨v, hv⟩ := c_gnN P (f_X8_takeName σ).1 (f_X8_takeName σ).2
    refine wq_of hv ?_
    split
    · exact bad _ _ _ hF f1
    · rw [wq_let, c_failN hF]
      exact bad _ _ _ hF f1
theorem fcL_P4 (h : fhiP P = true) : fcL (P + 4) = 5 := by rcases ph_P h with rfl | rfl <;> rfl
theorem fcL_P6 (h : fhiP P = true) : fcL (P + 6) = 8 := by rcases ph_P h with rfl | rfl <;> rfl
theorem fcL_P8 (h : fhiP P = true) : fcL (P + 8) = 16 := by rcases ph_P h with rfl | rfl <;> rfl
theorem cs_blind34N (hP : fhiP P = true) {e : Nat × Nat} {σ : fhM} (h : cF e σ) (v : Int32) : wq (f_X7_readBlind_34 P v σ) (fun s => cF e s ∧ fpl (pD P) σ s) := by
  have hp := ph_P hP
  unfold f_X7_readBlind_34
  rw [wq_let, c_takeWordN h, wq_let, c_nameN h, wq_bind]
  obtain ⟨x, hx⟩ := c_gnN P (f_X8_takeName σ).1 σ
  refine wq_of hx ?_
  have b92 : ∀ y, wq (f_X7_readBlind_92 P y σ) (fun s => cF e s ∧ fpl (pD P) σ s) := by
    intro y
    unfold f_X7_readBlind_92
    rw [wq_let, wq_some, c_failN h]
    exact ⟨h, fpl_rf⟩
  split
  · exact b92 _
  · split
    · exact b92 _
    · split
      · exact b92 _
      · split
        · rw [wq_some]
          refine ⟨cF_fr h (fun j => fcP_fr.2 3 j (by omega)), fpl_P fpl_rf ?_⟩
          unfold pD; omega
        · exact b92 _
theorem cs_blind (hT : tOK T) (hm : tend T m) (hP : fhiP P = true) {k : Nat} {p : fhPS} {out : gC} {σ : fhM} (h : cP T m k σ) (hk : k ≤ m) (hr : cRp P p out σ) (hl : out.length ≤ k) (ho : sOK T p k) (hn : p.n < 60) :
    wq (f_X7_readBlind P σ) (fun s => wq (f_X7_readStatement_133 P s) (fun s2 => cRes T m P (sBlind T p k) s2 ∧ fpl (pD P) σ s2)) := by
  have hp := ph_P hP
  obtain ⟨n1, n2, n3⟩ := c_name hT hm h
  have f1 : fpl (pD P) σ (f_X8_takeName σ).2 := fpl_r n3 (fun _ _ => cDf_pD)
  have hr2 : cRp P p out (f_X8_takeName σ).2 := cRp_fr hr (fun t j h1 h2 => n3.2 t j (by unfold cDf; omega))
  have bad : ∀ e (σ' : fhM) (v : Int32), cF e σ' → fpl (pD P) σ σ' → wq (f_X7_readBlind_34 P v σ') (fun s => wq (f_X7_readStatement_133 P s) (fun s2 => cF e s2 ∧ fpl (pD P) σ s2)) := by
    intro e σ' v hF hf
    exact wq_mono (cs_blind34N hP hF v) (fun s z => wq_mono (cs_semiN hP z.1) (fun s2 z2 => ⟨z2.1, fpl_tr (fpl_tr hf z.2) z2.2⟩))
  have badw : ∀ (r : gS) e (σ' : fhM) (v w : Int32), r = .inl e → cF e σ' → fpl (pD P) σ σ' → wq (f_X7_readBlind_92 P v σ') (fun s => wq (f_X7_readStatement_133 P s) (fun s2 => cRes T m P r s2 ∧ fpl (pD P) σ s2)) := by
    intro r e σ' v w hr hF hf
    subst hr
    unfold f_X7_readBlind_92
    rw [wq_let, wq_some, c_failN hF]
    exact wq_mono (cs_semiN hP hF) (fun s2 z2 => ⟨z2.1, fpl_tr hf z2.2⟩)
  unfold f_X7_readBlind sBlind
  rw [wq_let, wq_bind]
  by_cases q : (aF T k).1 = 0
  · obtain ⟨e1, e2⟩ := n1 q
    obtain ⟨b1, b2, b3⟩ := aF_name q
    have hkd := (aF_0 q).1
    have hkm := c_kd hm (show kd T k ≠ 0 by omega)
    rw [gif_t q, e1]
    refine wq_of (c_gn hP hr2.2.2.1 b1 b2) ?_
    cases hx : nix p.nl 0 (lt T k) with
    | none =>
      dsimp only
      rw [show nixI none = (-1 : Int32) from rfl, if_pos (show (-1 : Int32) = -1 from rfl), wq_let, h.2.2.2.2.2.1]
      obtain ⟨a, b⟩ := c_fail (e := (3, fm T k)) e2 ⟨Nat.le_of_ble_eq_true rfl, Nat.le_of_ble_eq_true rfl⟩
      exact bad _ _ _ a (fpl_tr f1 (fpl_r b (fun _ _ => cDf_pD)))
    | some a =>
      dsimp only
      obtain ⟨g1, g2⟩ := nix_in hx
      have hlen := nl_len p
      have ho5 := ho.2.2.2.2.1
      rw [show nixI (some a) = nI a from rfl, if_neg (ph_m1n (by omega))]
      generalize (f_X8_takeName σ).2 = σ1 at *
      unfold f_X7_readBlind_34
      obtain ⟨w1, w2, w3⟩ := c_takeWord (j := 4) hT hm e2 (by decide)
      have w3 : fr cDf σ1 (f_X8_takeWord (4 : Int32) σ1) := w3
      rw [wq_let, wq_let, wq_bind]
      by_cases q2 : isw T (k + 1) 4
      · have w1 : cP T m (k + 2) (f_X8_takeWord (4 : Int32) σ1) := w1 q2
        have hkm2 := c_kd hm (isw_k q2)
        have f2 : fpl (pD P) σ (f_X8_takeWord (4 : Int32) σ1) := fpl_tr f1 (fpl_r w3 (fun _ _ => cDf_pD))
        have hr3 : cRp P p out (f_X8_takeWord (4 : Int32) σ1) := cRp_fr hr2 (fun t j h1 h2 => w3.2 t j (by unfold cDf; omega))
        rw [gif_t q2]
        generalize f_X8_takeWord (4 : Int32) σ1 = σ2 at *
        obtain ⟨m1, m2, m3⟩ := c_name hT hm w1
        have f3 : fpl (pD P) σ (f_X8_takeName σ2).2 := fpl_tr f2 (fpl_r m3 (fun _ _ => cDf_pD))
        have hr4 : cRp P p out (f_X8_takeName σ2).2 := cRp_fr hr3 (fun t j h1 h2 => m3.2 t j (by unfold cDf; omega))
        have e8 : σ2.1 3 8 = nI (fm T (k + 2)) := w1.2.2.2.2.2.1
        rw [e8]
        by_cases q3 : (aF T (k + 2)).1 = 0
        · obtain ⟨y1, y2⟩ := m1 q3
          obtain ⟨c1, c2, c3⟩ := aF_name q3
          have hkd3 := (aF_0 q3).1
          have hkm3 := c_kd hm (show kd T (k + 2) ≠ 0 by omega)
          rw [gif_t q3, y1]
          refine wq_of (c_gn hP hr4.2.2.1 c1 c2) ?_
          rw [if_neg (ph_m1n (by omega))]
          generalize (f_X8_takeName σ2).2 = σ3 at *
          obtain ⟨x1, x2⟩ := c_fail (e := (3, fm T (k + 2))) y2 ⟨Nat.le_of_ble_eq_true rfl, Nat.le_of_ble_eq_true rfl⟩
          have b92 : wq (f_X7_readBlind_92 P (nI (fm T (k + 2))) σ3) (fun s => wq (f_X7_readStatement_133 P s) (fun s2 => cF (3, fm T (k + 2)) s2 ∧ fpl (pD P) σ s2)) := by
            unfold f_X7_readBlind_92
            rw [wq_let, wq_some]
            exact wq_mono (cs_semiN hP x1) (fun s2 z2 => ⟨z2.1, fpl_tr (fpl_tr f3 (fpl_r x2 (fun _ _ => cDf_pD))) z2.2⟩)
          cases hy : nix p.nl 0 (lt T (k + 2)) with
          | none =>
            dsimp only
            rw [show nixI none = (-1 : Int32) from rfl, if_pos (show (-1 : Int32) = -1 from rfl)]
            exact b92
          | some b =>
            dsimp only
            obtain ⟨j1, j2⟩ := nix_in hy
            rw [show nixI (some b) = nI b from rfl, if_neg (ph_m1n (by omega))]
            by_cases q4 : a = b
            · rw [if_pos (by rw [q4]), gif_t (Or.inl q4)]
              exact b92
            · have hbl := ho.2.2.2.2.2.2.1 a
              have h9 := hr4.2.2.2.2.2.2.2.2.1 a (by omega)
              rw [if_neg (nIn q4 (by omega) (by omega)), fcG_at (fcL_P4 hP) (show a < 5 by omega) (by omega), show P + 4 + 1 = P + 5 by omega, h9]
              by_cases q5 : (p.bl a).testBit b = true
              · rw [gif_t (Or.inr q5), if_neg (fun z => by rw [(ph_bit0 (by omega) (by omega)).mp z] at q5; cases q5)]
                exact b92
              · rw [gif_f (by rintro (z | z); exact q4 z; exact q5 z), if_pos ((ph_bit0 (by omega) (by omega)).mpr (by cases e : (p.bl a).testBit b with | true => exact absurd e q5 | false => rfl)), ph_shl1 (by omega), ph_or, fcP_at (fcL_P4 hP) (show a < 5 by omega) (by omega), wq_some]
                have hf : fpl (pD P) σ (fhI σ3 (P + 4 + 1) a (nI (p.bl a ||| 2 ^ b))) := by
                  refine fpl_I f3 ?_
                  unfold pD; omega
                have hor : p.bl a ||| 2 ^ b < 32 := by
                  have : (2 : Nat) ^ b < 2 ^ 5 := Nat.pow_lt_pow_right (by decide) (by omega)
                  exact Nat.or_lt_two_pow (n := 5) hbl this
                obtain ⟨h1, h2, h3, h4, h5, h6, h7, h8, h9', h10, h11, h12⟩ := hr4
                obtain ⟨o1, o2, o3, o4, o5, o6, o7, o8, o9, o10, o11, o12, o13⟩ := ho
                refine wq_mono (cs_semi (p := (fhPS.wbl p (bl1 p.bl a b))) (out := out) (k := k + 3) hT hm hP (cP_fr y2 (fun j => ?_) (fun j => ?_)) (by omega) ?_ (by omega) hn ?_) (fun s2 z => ⟨z.1, fpl_tr hf z.2⟩)
                · simp (disch := omega) only [fhI_e, fhI_o, fhI_s]
                · simp (disch := omega) only [fhI_e, fhI_o, fhI_s]
                · refine ⟨?_, ?_, cN_fr h3 (by simp (disch := omega) only [fhI_e, fhI_o, fhI_s]) (fun i => by simp (disch := omega) only [fhI_e, fhI_o, fhI_s]), ?_, ?_, ?_, ?_, ?_, ?_, cTs_fr h10 (fun j => by simp (disch := omega) only [fhI_e, fhI_o, fhI_s]), cTs_fr h11 (fun j => by simp (disch := omega) only [fhI_e, fhI_o, fhI_s]), cS_fr h12 (by simp (disch := omega) only [fhI_e, fhI_o, fhI_s]) (fun i => by simp (disch := omega) only [fhI_e, fhI_o, fhI_s])⟩
                  · simp (disch := omega) only [fhI_e, fhI_o, fhI_s]; exact h1
                  · simp (disch := omega) only [fhI_e, fhI_o, fhI_s]; exact h2
                  · simp (disch := omega) only [fhI_e, fhI_o, fhI_s]; exact h4
                  · simp (disch := omega) only [fhI_e, fhI_o, fhI_s]; exact h5
                  · simp (disch := omega) only [fhI_e, fhI_o, fhI_s]; exact h6
                  · simp (disch := omega) only [fhI_e, fhI_o, fhI_s]; exact h7
                  · simp (disch := omega) only [fhI_e, fhI_o, fhI_s]; exact h8
                  · intro x hx
                    show _ = nI (bl1 p.bl a b x)
                    unfold bl1
                    by_cases z : x = a
                    · rw [if_pos z, z, show P + 5 = P + 4 + 1 by omega, fhI_e]
                    · rw [if_neg z, show P + 5 = P + 4 + 1 by omega, fhI_s z]
                      exact h9' x hx
                · by_cases q6 : isg T (k + 3) 59
                  · left
                    have hk3 := kd_num (isg_k q6)
                    refine ⟨by show 1 ≤ p.n + 1; omega, by show p.n + 1 ≤ 60; omega, o3, o4, o5, o6, ?_, o8, o9, o10, o11, by show (p.ru.map List.length).sum + (p.fa.map List.length).sum ≤ k + 3 + 1; omega, by omega⟩
                    intro x
                    show bl1 p.bl a b x < 32
                    unfold bl1
                    split
                    · exact hor
                    · exact o7 x
                  · exact Or.inr q6
        · have hF := m2 q3
          rw [gif_f q3]
          obtain ⟨v, hv⟩ := c_gnN P (f_X8_takeName σ2).1 (f_X8_takeName σ2).2
          refine wq_of hv ?_
          rw [if_neg (ph_m1n (by omega))]
          have b92 := fun y => badw (.inl (aF T (k + 2))) _ _ y 0 rfl hF f3
          split
          · exact b92 _
          · split
            · exact b92 _
            · split
              · rw [wq_some]
                refine wq_mono (cs_semiN hP (cF_fr hF (fun j => fcP_fr.2 3 j (by omega)))) (fun s2 z2 => ⟨z2.1, fpl_tr (fpl_P f3 ?_) z2.2⟩)
                unfold pD; omega
              · exact b92 _
      · have w2 : cF (1, fm T (k + 1)) (f_X8_takeWord (4 : Int32) σ1) := w2 q2
        have f2 : fpl (pD P) σ (f_X8_takeWord (4 : Int32) σ1) := fpl_tr f1 (fpl_r w3 (fun _ _ => cDf_pD))
        rw [gif_f q2]
        generalize f_X8_takeWord (4 : Int32) σ1 = σ2 at *
        rw [c_nameN w2]
        obtain ⟨v, hv⟩ := c_gnN P (f_X8_takeName σ2).1 σ2
        refine wq_of hv ?_
        rw [if_neg (ph_m1n (by omega))]
        have b92 := fun y => badw (.inl (1, fm T (k + 1))) _ _ y 0 rfl w2 f2
        split
        · exact b92 _
        · split
          · exact b92 _
          · split
            · rw [wq_some]
              refine wq_mono (cs_semiN hP (cF_fr w2 (fun j => fcP_fr.2 3 j (by omega)))) (fun s2 z2 => ⟨z2.1, fpl_tr (fpl_P f2 ?_) z2.2⟩)
              unfold pD; omega
            · exact b92 _
  · have hF := n2 q
    rw [gif_f q]
    obtain ⟨v, hv⟩ := c_gnN P (f_X8_takeName σ).1 (f_X8_takeName σ).2
    refine wq_of hv ?_
    split
    · rw [wq_let, c_failN hF]
      exact bad _ _ _ hF f1
    · exact bad _ _ _ hF f1
end
